/-! ===== conditions, the reference ===== -/
theorem jo_readsSum2 {n : Nat} {σ : jw_H} {b : Int → Int} {d m i o : Int} {W c : jo_C} (hR : jo_rp b d m i o W c σ) (hB : jo_b W) {k : Nat} (hk : o + (k : Int) = 6) : jw_T (js_S n) 5 199 [.inr (.inr 103)] σ (fun r σ' => (r = some (.inl 0) ∧ jo_f σ σ' ∧ (jl_S b m k i).1 ≠ 0 ∧ σ' 103 10 = (jl_S b m k i).1) ∨ (r = some (.inl 1) ∧ jo_f σ σ' ∧ (jl_S b m k i).1 = 0 ∧ jo_rp b d m (jl_S b m k i).2.1 o W (c ++ (jl_S b m k i).2.2) σ')) :=
  jw_T_mono (jo_readsSum hR hB hk) (Nat.le_refl _) (fun r σ' h => h.2.elim (fun w => .inl ⟨w.1, h.1, w.2⟩) (fun w => .inr ⟨w.1, h.1, w.2⟩))
section JOQ
variable {b : Int → Int} {d d' m i o i' : Int} {W c : jo_C} {σ υ : jw_H}
theorem jo_rp_to (hR : jo_rp b d m i o W c σ) (hf : jo_f σ υ) (e8 : υ 103 8 = i') (hi' : i ≤ i' ∧ i' ≤ m ∧ d' + i ≤ d + i' ∧ 0 ≤ d') (e12 : υ 103 12 = σ 103 12) (e13 : υ 103 13 = σ 103 13) (e14 : υ 103 14 = σ 103 14) (e108 : υ 108 = σ 108) (e109 : υ 109 = σ 109) : jo_rp b d' m i' o W c υ := by
  have hR0 := hR
  obtain ⟨ht, em, h240, h8, hi, h12, ho, h13, h14, hb, hc, hw⟩ := hR
  exact jo_rp_mk hR0 hf e8 (by omega) (by omega) ho (by omega) (by omega) (by omega) (jo_cr_fr hc e108) (jo_ws_fr W hw (fun j _ => by rw [e109]))
/-- what a comparison leaves -/
def jo_cq (b : Int → Int) (d m : Int) (W c : jo_C) (o : Int) (R : jl_R) (σ : jw_H) (r : Option jw_V) (σ' : jw_H) : Prop := (r = some (.inl 0) ∧ jo_f σ σ' ∧ R.1 ≠ 0 ∧ σ' 103 10 = R.1) ∨ (r = some (.inl 1) ∧ jo_f σ σ' ∧ R.1 = 0 ∧ jo_rp b d m R.2.1 (jo_en W (c ++ R.2.2) o).2.2 (jo_en W (c ++ R.2.2) o).1 (jo_en W (c ++ R.2.2) o).2.1 σ')
end JOQ
theorem jo_readsCompared {n : Nat} {σ : jw_H} {b : Int → Int} {d m i o : Int} {W c : jo_C} (hR : jo_rp b d m i o W c σ) (hB : jo_b W) {k : Nat} (hk : o + (k : Int) = 6)  : jw_T (js_S n) 6 203 [.inr (.inr 103)] σ (fun r σ' => jo_cq b d m W c o (jl_cmp b m k i) σ r σ') := by
  refine jw_T_of (D := 5) (M := mm_203) rfl (Nat.le_of_ble_eq_true rfl) (ls0 := [some (.inr (.inr 103)), none]) rfl ?_ (by rintro _ _ (⟨rfl, -⟩ | ⟨rfl, -⟩) <;> rfl)
  have hR0 := hR
  obtain ⟨ht, em, h240, h8, hi, h12, ho, h13, h14, hb, hc, hw⟩ := hR
  refine jw_W_n 1 (i' := 1) (ls' := [some (.inr (.inr 103)), none]) (st' := [.inr (.inr 103)]) rfl ?_
  refine jw_W_call (as := [.inr (.inr 103)]) (rest := []) rfl rfl rfl rfl (Nat.le_of_ble_eq_true rfl) (.inr rfl) (jo_readsSum2 hR0 hB hk) (by omega) ?_ rfl
  rintro r1 σ1 (⟨rfl, hfa, hz, hv⟩ | ⟨rfl, hf1, hz, hR1⟩)
  · rename jw_H => σa
    show jw_W (js_S n) _ md_203 2 [some (.inr (.inr 103)), none] [.inl 0] σa _
    refine jw_W_if rfl (by unfold jw_rg; omega) (fun hc1 => ?_) (fun hc1 => ?_)
    · exact absurd hc1 (show ¬ ((0 : Int) ≠ 0) by omega)
    · clear hc1
      refine jw_W_n 1 (i' := 4) (ls' := [some (.inr (.inr 103)), none]) (st' := [.inl 0]) rfl ?_
      refine jw_W_ir rfl ?_
      rw [jl_cmp_1 hz]
      exact .inl ⟨rfl, hfa, hz, hv⟩
  · rename jw_H => σ1
    have hR1c := hR1
    obtain ⟨ht1, em1, -, h81, hi1, h121, ho1, h131, h141, hb1, -, -⟩ := hR1c
    have hh := jk_h_rg (b := b) (n := m) (i := (jl_S b m k i).2.1) (by omega) (fun j j0 j1 => (ht.2.2 j j0 (by omega)).2.2)
    have hlt := jk_h_lt (b := b) (m := m) (i := (jl_S b m k i).2.1)
    show jw_W (js_S n) _ md_203 2 [some (.inr (.inr 103)), none] [.inl 1] σ1 _
    refine jw_W_if rfl (by unfold jw_rg; omega) (fun hc2 => ?_) (fun hc2 => ?_)
    · clear hc2
      refine jw_W_n 1 (i' := 6) (ls' := [some (.inr (.inr 103)), none]) (st' := [.inr (.inr 103)]) rfl ?_
      refine jw_W_call (as := [.inr (.inr 103)]) (rest := []) rfl rfl rfl rfl (Nat.le_of_ble_eq_true rfl) (.inr rfl) (jk_hereR ht1) (by omega) ?_ rfl
      rintro r1 σz ⟨rfl, hs⟩
      rw [hs]
      rw [em1, h81]
      show jw_W (js_S n) _ md_203 7 [some (.inr (.inr 103)), none] [.inl (jk_h b m (jl_S b m k i).2.1)] σ1 _
      refine jw_W_n 1 (i' := 8) (ls' := [some (.inr (.inr 103)), none]) (st' := [.inl 60, .inl (jk_h b m (jl_S b m k i).2.1)]) rfl ?_
      refine jw_W_ic rfl (by unfold jw_rg; omega) (by unfold jw_rg; omega) (fun hc3 => ?_) (fun hc3 => ?_)
      · have hc3 : (jk_h b m (jl_S b m k i).2.1) ≠ 60 := hc3
        refine jw_W_n 1 (i' := 12) (ls' := [some (.inr (.inr 103)), none]) (st' := [.inr (.inr 103)]) rfl ?_
        refine jw_W_call (as := [.inr (.inr 103)]) (rest := []) rfl rfl rfl rfl (Nat.le_of_ble_eq_true rfl) (.inr rfl) (jk_hereR ht1) (by omega) ?_ rfl
        rintro r1 σz ⟨rfl, hs⟩
        rw [hs]
        rw [em1, h81]
        show jw_W (js_S n) _ md_203 13 [some (.inr (.inr 103)), none] [.inl (jk_h b m (jl_S b m k i).2.1)] σ1 _
        refine jw_W_n 1 (i' := 14) (ls' := [some (.inr (.inr 103)), none]) (st' := [.inl 62, .inl (jk_h b m (jl_S b m k i).2.1)]) rfl ?_
        refine jw_W_ic rfl (by unfold jw_rg; omega) (by unfold jw_rg; omega) (fun hc4 => ?_) (fun hc4 => ?_)
        · have hc4 : (jk_h b m (jl_S b m k i).2.1) ≠ 62 := hc4
          refine jw_W_n 1 (i' := 18) (ls' := [some (.inr (.inr 103)), none]) (st' := [.inr (.inr 103)]) rfl ?_
          refine jw_W_call (as := [.inr (.inr 103)]) (rest := []) rfl rfl rfl rfl (Nat.le_of_ble_eq_true rfl) (.inr rfl) (jk_hereR ht1) (by omega) ?_ rfl
          rintro r1 σz ⟨rfl, hs⟩
          rw [hs]
          rw [em1, h81]
          show jw_W (js_S n) _ md_203 19 [some (.inr (.inr 103)), none] [.inl (jk_h b m (jl_S b m k i).2.1)] σ1 _
          refine jw_W_n 1 (i' := 20) (ls' := [some (.inr (.inr 103)), none]) (st' := [.inl 61, .inl (jk_h b m (jl_S b m k i).2.1)]) rfl ?_
          refine jw_W_ic rfl (by unfold jw_rg; omega) (by unfold jw_rg; omega) (fun hc5 => ?_) (fun hc5 => ?_)
          · have hc5 : (jk_h b m (jl_S b m k i).2.1) ≠ 61 := hc5
            refine jw_W_n 4 (i' := 27) (ls' := [some (.inr (.inr 103)), some (.inl ((-1)))]) (st' := [.inl ((-1)), .inl ((-1))]) rfl ?_
            refine jw_W_ic rfl (by unfold jw_rg; omega) (by unfold jw_rg; omega) (fun hc6 => ?_) (fun hc6 => ?_)
            · exact absurd hc6 (show ¬ ((((-1 : Int))) ≠ ((-1))) by omega)
            · clear hc6
              refine jw_W_n 3 (i' := 31) (ls' := [some (.inr (.inr 103)), some (.inl ((-1)))]) (st' := [.inr (.inr 103), .inl 1, .inr (.inr 103)]) rfl ?_
              refine jw_W_gf rfl rfl rfl ?_
              show jw_W (js_S n) _ md_203 32 [some (.inr (.inr 103)), some (.inl ((-1)))] [.inl (σ1 103 8), .inl 1, .inr (.inr 103)] σ1 _
              refine jw_W_call (as := [.inr (.inr 103), .inl 1, .inl (σ1 103 8)]) (rest := []) rfl rfl rfl rfl (Nat.le_of_ble_eq_true rfl) (.inr rfl) (jk_wrongAt (by omega) (by omega)) (by omega) ?_ rfl
              rintro r1 σz ⟨rfl, hs⟩
              rename jw_H => σw
              show jw_W (js_S n) _ md_203 33 [some (.inr (.inr 103)), some (.inl ((-1)))] [.inl 0] σw _
              refine jw_W_ir rfl ?_
              rw [jl_cmp_2 hz (by unfold jl_com; rw [if_neg (by omega), if_neg (by omega), if_neg (by omega)])]
              exact .inl ⟨rfl, by rw [hs]; exact jo_f_up hf1 (by omega), by show -1000 * 1 - (jl_S b m k i).2.1 ≠ 0; omega, by rw [hs, jw_up_eq, h81]⟩
          · have hc5 : (jk_h b m (jl_S b m k i).2.1) = 61 := Classical.not_not.mp hc5
            refine jw_W_n 5 (i' := 27) (ls' := [some (.inr (.inr 103)), some (.inl 9)]) (st' := [.inl ((-1)), .inl 9]) rfl ?_
            refine jw_W_ic rfl (by unfold jw_rg; omega) (by unfold jw_rg; omega) (fun hc7 => ?_) (fun hc7 => ?_)
            · clear hc7
              refine jw_W_n 2 (i' := 36) (ls' := [some (.inr (.inr 103)), some (.inl 9)]) (st' := [.inr (.inr 103), .inr (.inr 103)]) rfl ?_
              refine jw_W_gf rfl rfl rfl ?_
              show jw_W (js_S n) _ md_203 37 [some (.inr (.inr 103)), some (.inl 9)] [.inl (σ1 103 8), .inr (.inr 103)] σ1 _
              refine jw_W_n 2 (i' := 39) (ls' := [some (.inr (.inr 103)), some (.inl 9)]) (st' := [.inl (σ1 103 8 + 1), .inr (.inr 103)]) rfl ?_
              refine jw_W_pf (a := σ1 103 8 + 1) rfl (by omega) rfl rfl rfl rfl rfl ?_
              have hc0 : jl_com (jk_h b m (jl_S b m k i).2.1) = 9 := by rw [show jk_h b m (jl_S b m k i).2.1 = 61 by omega]; rfl
              obtain ⟨σ2, hs2⟩ : ∃ s : jw_H, s = jw_up σ1 103 8 (σ1 103 8 + 1) := ⟨_, rfl⟩
              show jw_W (js_S n) _ _ _ _ _ (jw_up σ1 103 8 (σ1 103 8 + 1)) _
              rw [← hs2]
              have hf2 : jo_f σ1 σ2 := by rw [hs2]; exact jo_f_up (jo_f_rf σ1) (by omega)
              have hlt1 := hlt (by omega)
              have hR2 : jo_rp b (d + 1) m ((jl_S b m k i).2.1 + 1) o W (c ++ (jl_S b m k i).2.2) σ2 := jo_rp_to hR1 hf2 (by rw [hs2, jw_up_eq, h81]) (by omega) (by rw [hs2]; rfl) (by rw [hs2]; rfl) (by rw [hs2]; rfl) (by rw [hs2]; rfl) (by rw [hs2]; rfl)
              refine jw_W_n 1 (i' := 41) (ls' := [some (.inr (.inr 103)), some (.inl 9)]) (st' := [.inr (.inr 103)]) rfl ?_
              refine jw_W_call (as := [.inr (.inr 103)]) (rest := []) rfl rfl rfl rfl (Nat.le_of_ble_eq_true rfl) (.inr rfl) (jo_readsSum2 hR2 hB hk) (by omega) ?_ rfl
              rintro r1 σ3 (⟨rfl, hfb, hz2, hv⟩ | ⟨rfl, hf3, hz2, hR3⟩)
              · rename jw_H => σb
                show jw_W (js_S n) _ md_203 42 [some (.inr (.inr 103)), some (.inl 9)] [.inl 0] σb _
                refine jw_W_if rfl (by unfold jw_rg; omega) (fun hc8 => ?_) (fun hc8 => ?_)
                · exact absurd hc8 (show ¬ ((0 : Int) ≠ 0) by omega)
                · clear hc8
                  refine jw_W_n 1 (i' := 44) (ls' := [some (.inr (.inr 103)), some (.inl 9)]) (st' := [.inl 0]) rfl ?_
                  refine jw_W_ir rfl ?_
                  rw [jl_cmp_3 hz (by omega)]
                  exact .inl ⟨rfl, jo_f_tr hf1 (jo_f_tr hf2 hfb), hz2, hv⟩
              · rename jw_H => σ3
                have hR3c := hR3
                obtain ⟨ht3, em3, -, h83, hi3, h123, ho3, h133, h143, hb3, -, -⟩ := hR3c
                show jw_W (js_S n) _ md_203 42 [some (.inr (.inr 103)), some (.inl 9)] [.inl 1] σ3 _
                refine jw_W_if rfl (by unfold jw_rg; omega) (fun hc9 => ?_) (fun hc9 => ?_)
                · clear hc9
                  refine jw_W_n 3 (i' := 48) (ls' := [some (.inr (.inr 103)), some (.inl 9)]) (st' := [.inl 0, .inl 9, .inr (.inr 103)]) rfl ?_
                  refine jw_W_call (as := [.inr (.inr 103), .inl 9, .inl 0]) (rest := []) rfl rfl rfl rfl (Nat.le_of_ble_eq_true rfl) (.inr rfl) (jo_notes (by omega) (by omega) (by omega)) (by omega) ?_ rfl
                  rintro r1 σ4 ⟨rfl, hs4⟩
                  rename jw_H => σ4
                  have hf4 : jo_f σ3 σ4 := by rw [hs4]; exact jo_f_up (jo_f_up (jo_f_rf σ3) (by omega)) (by omega)
                  have hR4 := jo_rp_note (d' := d) (i' := (jl_S b m k ((jl_S b m k i).2.1 + 1)).2.1) (q := (9, 0)) hR3 hf4 (by rw [hs4]; exact h83) (by omega) (by rw [hs4]; rfl) (by rw [hs4]; rfl) (by rw [hs4]; rfl) (by rw [hs4, jw_up_out _ _ _ (by omega), jw_up_eq]; rfl) (fun j hj => by rw [hs4, jw_up_out _ _ _ (by omega), jw_up_ne _ (by omega)]) (by rw [hs4]; rfl) (by show 0 ≤ (9 : Int) ∧ (9 : Int) ≤ 12; omega) (by show -1 ≤ (0 : Int) ∧ (0 : Int) ≤ 99999; omega)
                  show jw_W (js_S n) _ md_203 49 [some (.inr (.inr 103)), some (.inl 9)] [] σ4 _
                  refine jw_W_n 1 (i' := 50) (ls' := [some (.inr (.inr 103)), some (.inl 9)]) (st' := [.inr (.inr 103)]) rfl ?_
                  refine jw_W_call (as := [.inr (.inr 103)]) (rest := []) rfl rfl rfl rfl (Nat.le_of_ble_eq_true rfl) (.inr rfl) (jo_endsPiece hR4) (by omega) ?_ rfl
                  rintro r1 σ5 ⟨rfl, hf5, hR5⟩
                  rename jw_H => σ5
                  show jw_W (js_S n) _ md_203 51 [some (.inr (.inr 103)), some (.inl 9)] [] σ5 _
                  refine jw_W_n 1 (i' := 52) (ls' := [some (.inr (.inr 103)), some (.inl 9)]) (st' := [.inl 1]) rfl ?_
                  refine jw_W_ir rfl ?_
                  rw [jl_cmp_3 hz (by omega)]
                  refine .inr ⟨rfl, jo_f_tr (jo_f_tr hf1 hf2) (jo_f_tr hf3 (jo_f_tr hf4 hf5)), hz2, ?_⟩
                  show jo_rp b d m (jl_S b m k ((jl_S b m k i).2.1 + 1)).2.1 (jo_en W (c ++ ((jl_S b m k i).2.2 ++ (jl_S b m k ((jl_S b m k i).2.1 + 1)).2.2 ++ [(jl_com (jk_h b m (jl_S b m k i).2.1), 0)])) o).2.2 (jo_en W (c ++ ((jl_S b m k i).2.2 ++ (jl_S b m k ((jl_S b m k i).2.1 + 1)).2.2 ++ [(jl_com (jk_h b m (jl_S b m k i).2.1), 0)])) o).1 (jo_en W (c ++ ((jl_S b m k i).2.2 ++ (jl_S b m k ((jl_S b m k i).2.1 + 1)).2.2 ++ [(jl_com (jk_h b m (jl_S b m k i).2.1), 0)])) o).2.1 σ5
                  rw [hc0]
                  rw [show c ++ ((jl_S b m k i).2.2 ++ (jl_S b m k ((jl_S b m k i).2.1 + 1)).2.2 ++ [(9, 0)]) = c ++ (jl_S b m k i).2.2 ++ (jl_S b m k ((jl_S b m k i).2.1 + 1)).2.2 ++ [(9, 0)] by simp only [List.append_assoc]]
                  exact hR5
                · exact absurd hc9 (show ¬ ¬ ((1 : Int) ≠ 0) by omega)
            · exact absurd hc7 (show ¬ ¬ ((9 : Int) ≠ ((-1))) by omega)
        · have hc4 : (jk_h b m (jl_S b m k i).2.1) = 62 := Classical.not_not.mp hc4
          refine jw_W_n 5 (i' := 27) (ls' := [some (.inr (.inr 103)), some (.inl 8)]) (st' := [.inl ((-1)), .inl 8]) rfl ?_
          refine jw_W_ic rfl (by unfold jw_rg; omega) (by unfold jw_rg; omega) (fun hc10 => ?_) (fun hc10 => ?_)
          · clear hc10
            refine jw_W_n 2 (i' := 36) (ls' := [some (.inr (.inr 103)), some (.inl 8)]) (st' := [.inr (.inr 103), .inr (.inr 103)]) rfl ?_
            refine jw_W_gf rfl rfl rfl ?_
            show jw_W (js_S n) _ md_203 37 [some (.inr (.inr 103)), some (.inl 8)] [.inl (σ1 103 8), .inr (.inr 103)] σ1 _
            refine jw_W_n 2 (i' := 39) (ls' := [some (.inr (.inr 103)), some (.inl 8)]) (st' := [.inl (σ1 103 8 + 1), .inr (.inr 103)]) rfl ?_
            refine jw_W_pf (a := σ1 103 8 + 1) rfl (by omega) rfl rfl rfl rfl rfl ?_
            have hc0 : jl_com (jk_h b m (jl_S b m k i).2.1) = 8 := by rw [show jk_h b m (jl_S b m k i).2.1 = 62 by omega]; rfl
            obtain ⟨σ2, hs2⟩ : ∃ s : jw_H, s = jw_up σ1 103 8 (σ1 103 8 + 1) := ⟨_, rfl⟩
            show jw_W (js_S n) _ _ _ _ _ (jw_up σ1 103 8 (σ1 103 8 + 1)) _
            rw [← hs2]
            have hf2 : jo_f σ1 σ2 := by rw [hs2]; exact jo_f_up (jo_f_rf σ1) (by omega)
            have hlt1 := hlt (by omega)
            have hR2 : jo_rp b (d + 1) m ((jl_S b m k i).2.1 + 1) o W (c ++ (jl_S b m k i).2.2) σ2 := jo_rp_to hR1 hf2 (by rw [hs2, jw_up_eq, h81]) (by omega) (by rw [hs2]; rfl) (by rw [hs2]; rfl) (by rw [hs2]; rfl) (by rw [hs2]; rfl) (by rw [hs2]; rfl)
            refine jw_W_n 1 (i' := 41) (ls' := [some (.inr (.inr 103)), some (.inl 8)]) (st' := [.inr (.inr 103)]) rfl ?_
            refine jw_W_call (as := [.inr (.inr 103)]) (rest := []) rfl rfl rfl rfl (Nat.le_of_ble_eq_true rfl) (.inr rfl) (jo_readsSum2 hR2 hB hk) (by omega) ?_ rfl
            rintro r1 σ3 (⟨rfl, hfb, hz2, hv⟩ | ⟨rfl, hf3, hz2, hR3⟩)
            · rename jw_H => σb
              show jw_W (js_S n) _ md_203 42 [some (.inr (.inr 103)), some (.inl 8)] [.inl 0] σb _
              refine jw_W_if rfl (by unfold jw_rg; omega) (fun hc11 => ?_) (fun hc11 => ?_)
              · exact absurd hc11 (show ¬ ((0 : Int) ≠ 0) by omega)
              · clear hc11
                refine jw_W_n 1 (i' := 44) (ls' := [some (.inr (.inr 103)), some (.inl 8)]) (st' := [.inl 0]) rfl ?_
                refine jw_W_ir rfl ?_
                rw [jl_cmp_3 hz (by omega)]
                exact .inl ⟨rfl, jo_f_tr hf1 (jo_f_tr hf2 hfb), hz2, hv⟩
            · rename jw_H => σ3
              have hR3c := hR3
              obtain ⟨ht3, em3, -, h83, hi3, h123, ho3, h133, h143, hb3, -, -⟩ := hR3c
              show jw_W (js_S n) _ md_203 42 [some (.inr (.inr 103)), some (.inl 8)] [.inl 1] σ3 _
              refine jw_W_if rfl (by unfold jw_rg; omega) (fun hc12 => ?_) (fun hc12 => ?_)
              · clear hc12
                refine jw_W_n 3 (i' := 48) (ls' := [some (.inr (.inr 103)), some (.inl 8)]) (st' := [.inl 0, .inl 8, .inr (.inr 103)]) rfl ?_
                refine jw_W_call (as := [.inr (.inr 103), .inl 8, .inl 0]) (rest := []) rfl rfl rfl rfl (Nat.le_of_ble_eq_true rfl) (.inr rfl) (jo_notes (by omega) (by omega) (by omega)) (by omega) ?_ rfl
                rintro r1 σ4 ⟨rfl, hs4⟩
                rename jw_H => σ4
                have hf4 : jo_f σ3 σ4 := by rw [hs4]; exact jo_f_up (jo_f_up (jo_f_rf σ3) (by omega)) (by omega)
                have hR4 := jo_rp_note (d' := d) (i' := (jl_S b m k ((jl_S b m k i).2.1 + 1)).2.1) (q := (8, 0)) hR3 hf4 (by rw [hs4]; exact h83) (by omega) (by rw [hs4]; rfl) (by rw [hs4]; rfl) (by rw [hs4]; rfl) (by rw [hs4, jw_up_out _ _ _ (by omega), jw_up_eq]; rfl) (fun j hj => by rw [hs4, jw_up_out _ _ _ (by omega), jw_up_ne _ (by omega)]) (by rw [hs4]; rfl) (by show 0 ≤ (8 : Int) ∧ (8 : Int) ≤ 12; omega) (by show -1 ≤ (0 : Int) ∧ (0 : Int) ≤ 99999; omega)
                show jw_W (js_S n) _ md_203 49 [some (.inr (.inr 103)), some (.inl 8)] [] σ4 _
                refine jw_W_n 1 (i' := 50) (ls' := [some (.inr (.inr 103)), some (.inl 8)]) (st' := [.inr (.inr 103)]) rfl ?_
                refine jw_W_call (as := [.inr (.inr 103)]) (rest := []) rfl rfl rfl rfl (Nat.le_of_ble_eq_true rfl) (.inr rfl) (jo_endsPiece hR4) (by omega) ?_ rfl
                rintro r1 σ5 ⟨rfl, hf5, hR5⟩
                rename jw_H => σ5
                show jw_W (js_S n) _ md_203 51 [some (.inr (.inr 103)), some (.inl 8)] [] σ5 _
                refine jw_W_n 1 (i' := 52) (ls' := [some (.inr (.inr 103)), some (.inl 8)]) (st' := [.inl 1]) rfl ?_
                refine jw_W_ir rfl ?_
                rw [jl_cmp_3 hz (by omega)]
                refine .inr ⟨rfl, jo_f_tr (jo_f_tr hf1 hf2) (jo_f_tr hf3 (jo_f_tr hf4 hf5)), hz2, ?_⟩
                show jo_rp b d m (jl_S b m k ((jl_S b m k i).2.1 + 1)).2.1 (jo_en W (c ++ ((jl_S b m k i).2.2 ++ (jl_S b m k ((jl_S b m k i).2.1 + 1)).2.2 ++ [(jl_com (jk_h b m (jl_S b m k i).2.1), 0)])) o).2.2 (jo_en W (c ++ ((jl_S b m k i).2.2 ++ (jl_S b m k ((jl_S b m k i).2.1 + 1)).2.2 ++ [(jl_com (jk_h b m (jl_S b m k i).2.1), 0)])) o).1 (jo_en W (c ++ ((jl_S b m k i).2.2 ++ (jl_S b m k ((jl_S b m k i).2.1 + 1)).2.2 ++ [(jl_com (jk_h b m (jl_S b m k i).2.1), 0)])) o).2.1 σ5
                rw [hc0]
                rw [show c ++ ((jl_S b m k i).2.2 ++ (jl_S b m k ((jl_S b m k i).2.1 + 1)).2.2 ++ [(8, 0)]) = c ++ (jl_S b m k i).2.2 ++ (jl_S b m k ((jl_S b m k i).2.1 + 1)).2.2 ++ [(8, 0)] by simp only [List.append_assoc]]
                exact hR5
              · exact absurd hc12 (show ¬ ¬ ((1 : Int) ≠ 0) by omega)
          · exact absurd hc10 (show ¬ ¬ ((8 : Int) ≠ ((-1))) by omega)
      · have hc3 : (jk_h b m (jl_S b m k i).2.1) = 60 := Classical.not_not.mp hc3
        refine jw_W_n 5 (i' := 27) (ls' := [some (.inr (.inr 103)), some (.inl 7)]) (st' := [.inl ((-1)), .inl 7]) rfl ?_
        refine jw_W_ic rfl (by unfold jw_rg; omega) (by unfold jw_rg; omega) (fun hc13 => ?_) (fun hc13 => ?_)
        · clear hc13
          refine jw_W_n 2 (i' := 36) (ls' := [some (.inr (.inr 103)), some (.inl 7)]) (st' := [.inr (.inr 103), .inr (.inr 103)]) rfl ?_
          refine jw_W_gf rfl rfl rfl ?_
          show jw_W (js_S n) _ md_203 37 [some (.inr (.inr 103)), some (.inl 7)] [.inl (σ1 103 8), .inr (.inr 103)] σ1 _
          refine jw_W_n 2 (i' := 39) (ls' := [some (.inr (.inr 103)), some (.inl 7)]) (st' := [.inl (σ1 103 8 + 1), .inr (.inr 103)]) rfl ?_
          refine jw_W_pf (a := σ1 103 8 + 1) rfl (by omega) rfl rfl rfl rfl rfl ?_
          have hc0 : jl_com (jk_h b m (jl_S b m k i).2.1) = 7 := by rw [show jk_h b m (jl_S b m k i).2.1 = 60 by omega]; rfl
          obtain ⟨σ2, hs2⟩ : ∃ s : jw_H, s = jw_up σ1 103 8 (σ1 103 8 + 1) := ⟨_, rfl⟩
          show jw_W (js_S n) _ _ _ _ _ (jw_up σ1 103 8 (σ1 103 8 + 1)) _
          rw [← hs2]
          have hf2 : jo_f σ1 σ2 := by rw [hs2]; exact jo_f_up (jo_f_rf σ1) (by omega)
          have hlt1 := hlt (by omega)
          have hR2 : jo_rp b (d + 1) m ((jl_S b m k i).2.1 + 1) o W (c ++ (jl_S b m k i).2.2) σ2 := jo_rp_to hR1 hf2 (by rw [hs2, jw_up_eq, h81]) (by omega) (by rw [hs2]; rfl) (by rw [hs2]; rfl) (by rw [hs2]; rfl) (by rw [hs2]; rfl) (by rw [hs2]; rfl)
          refine jw_W_n 1 (i' := 41) (ls' := [some (.inr (.inr 103)), some (.inl 7)]) (st' := [.inr (.inr 103)]) rfl ?_
          refine jw_W_call (as := [.inr (.inr 103)]) (rest := []) rfl rfl rfl rfl (Nat.le_of_ble_eq_true rfl) (.inr rfl) (jo_readsSum2 hR2 hB hk) (by omega) ?_ rfl
          rintro r1 σ3 (⟨rfl, hfb, hz2, hv⟩ | ⟨rfl, hf3, hz2, hR3⟩)
          · rename jw_H => σb
            show jw_W (js_S n) _ md_203 42 [some (.inr (.inr 103)), some (.inl 7)] [.inl 0] σb _
            refine jw_W_if rfl (by unfold jw_rg; omega) (fun hc14 => ?_) (fun hc14 => ?_)
            · exact absurd hc14 (show ¬ ((0 : Int) ≠ 0) by omega)
            · clear hc14
              refine jw_W_n 1 (i' := 44) (ls' := [some (.inr (.inr 103)), some (.inl 7)]) (st' := [.inl 0]) rfl ?_
              refine jw_W_ir rfl ?_
              rw [jl_cmp_3 hz (by omega)]
              exact .inl ⟨rfl, jo_f_tr hf1 (jo_f_tr hf2 hfb), hz2, hv⟩
          · rename jw_H => σ3
            have hR3c := hR3
            obtain ⟨ht3, em3, -, h83, hi3, h123, ho3, h133, h143, hb3, -, -⟩ := hR3c
            show jw_W (js_S n) _ md_203 42 [some (.inr (.inr 103)), some (.inl 7)] [.inl 1] σ3 _
            refine jw_W_if rfl (by unfold jw_rg; omega) (fun hc15 => ?_) (fun hc15 => ?_)
            · clear hc15
              refine jw_W_n 3 (i' := 48) (ls' := [some (.inr (.inr 103)), some (.inl 7)]) (st' := [.inl 0, .inl 7, .inr (.inr 103)]) rfl ?_
              refine jw_W_call (as := [.inr (.inr 103), .inl 7, .inl 0]) (rest := []) rfl rfl rfl rfl (Nat.le_of_ble_eq_true rfl) (.inr rfl) (jo_notes (by omega) (by omega) (by omega)) (by omega) ?_ rfl
              rintro r1 σ4 ⟨rfl, hs4⟩
              rename jw_H => σ4
              have hf4 : jo_f σ3 σ4 := by rw [hs4]; exact jo_f_up (jo_f_up (jo_f_rf σ3) (by omega)) (by omega)
              have hR4 := jo_rp_note (d' := d) (i' := (jl_S b m k ((jl_S b m k i).2.1 + 1)).2.1) (q := (7, 0)) hR3 hf4 (by rw [hs4]; exact h83) (by omega) (by rw [hs4]; rfl) (by rw [hs4]; rfl) (by rw [hs4]; rfl) (by rw [hs4, jw_up_out _ _ _ (by omega), jw_up_eq]; rfl) (fun j hj => by rw [hs4, jw_up_out _ _ _ (by omega), jw_up_ne _ (by omega)]) (by rw [hs4]; rfl) (by show 0 ≤ (7 : Int) ∧ (7 : Int) ≤ 12; omega) (by show -1 ≤ (0 : Int) ∧ (0 : Int) ≤ 99999; omega)
              show jw_W (js_S n) _ md_203 49 [some (.inr (.inr 103)), some (.inl 7)] [] σ4 _
              refine jw_W_n 1 (i' := 50) (ls' := [some (.inr (.inr 103)), some (.inl 7)]) (st' := [.inr (.inr 103)]) rfl ?_
              refine jw_W_call (as := [.inr (.inr 103)]) (rest := []) rfl rfl rfl rfl (Nat.le_of_ble_eq_true rfl) (.inr rfl) (jo_endsPiece hR4) (by omega) ?_ rfl
              rintro r1 σ5 ⟨rfl, hf5, hR5⟩
              rename jw_H => σ5
              show jw_W (js_S n) _ md_203 51 [some (.inr (.inr 103)), some (.inl 7)] [] σ5 _
              refine jw_W_n 1 (i' := 52) (ls' := [some (.inr (.inr 103)), some (.inl 7)]) (st' := [.inl 1]) rfl ?_
              refine jw_W_ir rfl ?_
              rw [jl_cmp_3 hz (by omega)]
              refine .inr ⟨rfl, jo_f_tr (jo_f_tr hf1 hf2) (jo_f_tr hf3 (jo_f_tr hf4 hf5)), hz2, ?_⟩
              show jo_rp b d m (jl_S b m k ((jl_S b m k i).2.1 + 1)).2.1 (jo_en W (c ++ ((jl_S b m k i).2.2 ++ (jl_S b m k ((jl_S b m k i).2.1 + 1)).2.2 ++ [(jl_com (jk_h b m (jl_S b m k i).2.1), 0)])) o).2.2 (jo_en W (c ++ ((jl_S b m k i).2.2 ++ (jl_S b m k ((jl_S b m k i).2.1 + 1)).2.2 ++ [(jl_com (jk_h b m (jl_S b m k i).2.1), 0)])) o).1 (jo_en W (c ++ ((jl_S b m k i).2.2 ++ (jl_S b m k ((jl_S b m k i).2.1 + 1)).2.2 ++ [(jl_com (jk_h b m (jl_S b m k i).2.1), 0)])) o).2.1 σ5
              rw [hc0]
              rw [show c ++ ((jl_S b m k i).2.2 ++ (jl_S b m k ((jl_S b m k i).2.1 + 1)).2.2 ++ [(7, 0)]) = c ++ (jl_S b m k i).2.2 ++ (jl_S b m k ((jl_S b m k i).2.1 + 1)).2.2 ++ [(7, 0)] by simp only [List.append_assoc]]
              exact hR5
            · exact absurd hc15 (show ¬ ¬ ((1 : Int) ≠ 0) by omega)
        · exact absurd hc13 (show ¬ ¬ ((7 : Int) ≠ ((-1))) by omega)
    · exact absurd hc2 (show ¬ ¬ ((1 : Int) ≠ 0) by omega)
section JOU
variable {n : Nat} {b : Int → Int} {d m : Int} {σ0 : jw_H} {Q : Option jw_V → jw_H → Prop} {i o : Int} {W c : jo_C}
/-- what waits while a condition is read -/
def jo_v (W : jo_C) : Prop := ∀ q, q ∈ W → 10 ≤ q.1 ∧ q.1 ≤ 13
theorem jo_v_b (h : jo_v W) : jo_b W := fun q V e => (h q (by rw [e]; exact List.mem_cons_self)).1
theorem jo_v_c {q : Int × Int} (h : jo_v W) (hq : 10 ≤ q.1 ∧ q.1 ≤ 13) : jo_v (q :: W) := fun r hr => by
  rcases List.mem_cons.mp hr with rfl | hr
  · exact hq
  · exact h r hr
theorem jo_v_t {q : Int × Int} (h : jo_v (q :: W)) : jo_v W := fun r hr => h r (List.mem_cons_of_mem _ hr)
theorem jo_v_ln {all : Bool} : ∀ (W : jo_C) {c : jo_C}, jo_v W → jo_v (jo_ln all W c).1
  | [], c, h => h
  | q :: W, c, h => by
    by_cases h1 : q.1 = 11 ∨ (all = true ∧ q.1 = 12)
    · rw [jo_ln_y h1]
      exact jo_v_ln W (jo_v_t h)
    · rw [jo_ln_n h1]
      exact h
theorem jo_v_en : ∀ (W : jo_C) {c : jo_C} {o : Int}, jo_v W → jo_v (jo_en W c o).1
  | [], c, o, h => h
  | q :: W, c, o, h => by
    by_cases h1 : q.1 = 10
    · rw [jo_en_y h1]
      exact jo_v_en W (jo_v_t h)
    · rw [jo_en_n h1]
      exact h
def jo_CT (n : Nat) (b : Int → Int) (d m : Int) (σ0 : jw_H) (Q : Option jw_V → jw_H → Prop) (i : Int) (W c : jo_C) (o : Int) : Prop := ∀ σ, jo_v W → jo_rp b d m i o W c σ → jo_f σ0 σ → jw_W (js_S n) 6 md_204 22 [some (.inr (.inr 103))] [] σ Q
def jo_CE (n : Nat) (b : Int → Int) (d m : Int) (σ0 : jw_H) (Q : Option jw_V → jw_H → Prop) (i : Int) (W c : jo_C) (o : Int) : Prop := ∀ σ, jo_v W → jo_rp b d m i o W c σ → jo_f σ0 σ → jw_W (js_S n) 6 md_204 47 [some (.inr (.inr 103))] [] σ Q
def jo_CD (b : Int → Int) (d m : Int) (σ0 : jw_H) (Q : Option jw_V → jw_H → Prop) (i : Int) (c : jo_C) : Prop := ∀ σ' o, jo_f σ0 σ' → jo_rp b d m i o [] c σ' → Q (some (.inl 1)) σ'
end JOU
theorem jo_T_step {n : Nat} {b : Int → Int} {d m : Int} {σ0 : jw_H} {Q : Option jw_V → jw_H → Prop} {i o : Int} {W c : jo_C} (g1 : (jk_h b m i = 33 ∨ jk_h b m i = 40) → o < 6 → jo_CT n b d m σ0 Q (i + 1) ((jo_bang (jk_h b m i), 0) :: W) c (o + 1)) (g2 : (jk_h b m i = 33 ∨ jk_h b m i = 40) → o = 6 → jo_Er σ0 Q (-1000 * 5 - i)) (g3 : jk_h b m i ≠ 33 → jk_h b m i ≠ 40 → (jl_cmp b m (6 - o).toNat i).1 = 0 → jo_ex (jo_CE n b d m σ0 Q) (jl_cmp b m (6 - o).toNat i).2.1 (jo_en W (c ++ (jl_cmp b m (6 - o).toNat i).2.2) o)) (g4 : jk_h b m i ≠ 33 → jk_h b m i ≠ 40 → (jl_cmp b m (6 - o).toNat i).1 ≠ 0 → jo_Er σ0 Q (jl_cmp b m (6 - o).toNat i).1) : jo_CT n b d m σ0 Q i W c o := by
  intro σ hv hR hf
  have hR0 := hR
  obtain ⟨ht, em, h240, h8, hi, h12, ho, h13, h14, hb, hc, hw⟩ := hR
  have hh := jk_h_rg (b := b) (n := m) (i := i) (by omega) (fun j j0 j1 => (ht.2.2 j j0 (by omega)).2.2)
  have hlt := jk_h_lt (b := b) (m := m) (i := i)
  refine jw_W_n 1 (i' := 23) (ls' := [some (.inr (.inr 103))]) (st' := [.inr (.inr 103)]) rfl ?_
  refine jw_W_call (as := [.inr (.inr 103)]) (rest := []) rfl rfl rfl rfl (Nat.le_of_ble_eq_true rfl) (.inr rfl) (jk_hereR ht) (by omega) ?_ rfl
  rintro r1 σz ⟨rfl, hs⟩
  rw [hs]
  rw [em, h8]
  show jw_W (js_S n) _ md_204 24 [some (.inr (.inr 103))] [.inl (jk_h b m i)] σ _
  refine jw_W_n 1 (i' := 25) (ls' := [some (.inr (.inr 103))]) (st' := [.inl 33, .inl (jk_h b m i)]) rfl ?_
  refine jw_W_ic rfl (by unfold jw_rg; omega) (by unfold jw_rg; omega) (fun hc1 => ?_) (fun hc1 => ?_)
  · have hc1 : (jk_h b m i) = 33 := hc1
    refine jw_W_n 2 (i' := 32) (ls' := [some (.inr (.inr 103))]) (st' := [.inr (.inr 103), .inr (.inr 103)]) rfl ?_
    refine jw_W_call (as := [.inr (.inr 103)]) (rest := [.inr (.inr 103)]) rfl rfl rfl rfl (Nat.le_of_ble_eq_true rfl) (.inr rfl) (jk_hereR ht) (by omega) ?_ rfl
    rintro r1 σz ⟨rfl, hs⟩
    rw [hs]
    rw [em, h8]
    show jw_W (js_S n) _ md_204 33 [some (.inr (.inr 103))] [.inl (jk_h b m i), .inr (.inr 103)] σ _
    refine jw_W_n 1 (i' := 34) (ls' := [some (.inr (.inr 103))]) (st' := [.inl 33, .inl (jk_h b m i), .inr (.inr 103)]) rfl ?_
    refine jw_W_ic rfl (by unfold jw_rg; omega) (by unfold jw_rg; omega) (fun hc2 => ?_) (fun hc2 => ?_)
    · have hc2 : (jk_h b m i) ≠ 33 := hc2
      refine jw_W_n 1 (i' := 38) (ls' := [some (.inr (.inr 103))]) (st' := [.inl 13, .inr (.inr 103)]) rfl ?_
      refine jw_W_call (as := [.inr (.inr 103), .inl 13]) (rest := []) rfl rfl rfl rfl (Nat.le_of_ble_eq_true rfl) (.inr rfl) (jo_opens hR0 (x := 13) (by omega) (hlt (by omega))) (by omega) ?_ rfl
      rintro r1 σ1 (⟨rfl, ho6, hs⟩ | ⟨rfl, ho6, hf1, hR1⟩)
      · rename jw_H => σx
        show jw_W (js_S n) _ md_204 39 [some (.inr (.inr 103))] [.inl 0] σx _
        refine jw_W_if rfl (by unfold jw_rg; omega) (fun hc3 => ?_) (fun hc3 => ?_)
        · exact absurd hc3 (show ¬ ((0 : Int) ≠ 0) by omega)
        · clear hc3
          refine jw_W_n 1 (i' := 41) (ls' := [some (.inr (.inr 103))]) (st' := [.inl 0]) rfl ?_
          refine jw_W_ir rfl ?_
          exact g2 (by omega) ho6 σx (by rw [hs]; exact jo_f_up hf (by omega)) (by rw [hs, jw_up_eq])
      · rename jw_H => σ1
        show jw_W (js_S n) _ md_204 39 [some (.inr (.inr 103))] [.inl 1] σ1 _
        refine jw_W_if rfl (by unfold jw_rg; omega) (fun hc4 => ?_) (fun hc4 => ?_)
        · clear hc4
          by_cases hbg : jo_bang (jk_h b m i) = 13
          · rw [hbg] at g1
            exact g1 (by omega) ho6 σ1 (jo_v_c hv (by show 10 ≤ (13 : Int) ∧ (13 : Int) ≤ 13; omega)) hR1 (jo_f_tr hf hf1)
          · exfalso
            unfold jo_bang at hbg
            first | (rw [if_pos (by omega)] at hbg; omega) | (rw [if_neg (by omega)] at hbg; omega)
        · exact absurd hc4 (show ¬ ¬ ((1 : Int) ≠ 0) by omega)
    · have hc2 : (jk_h b m i) = 33 := Classical.not_not.mp hc2
      refine jw_W_n 2 (i' := 38) (ls' := [some (.inr (.inr 103))]) (st' := [.inl 10, .inr (.inr 103)]) rfl ?_
      refine jw_W_call (as := [.inr (.inr 103), .inl 10]) (rest := []) rfl rfl rfl rfl (Nat.le_of_ble_eq_true rfl) (.inr rfl) (jo_opens hR0 (x := 10) (by omega) (hlt (by omega))) (by omega) ?_ rfl
      rintro r1 σ1 (⟨rfl, ho6, hs⟩ | ⟨rfl, ho6, hf1, hR1⟩)
      · rename jw_H => σx
        show jw_W (js_S n) _ md_204 39 [some (.inr (.inr 103))] [.inl 0] σx _
        refine jw_W_if rfl (by unfold jw_rg; omega) (fun hc5 => ?_) (fun hc5 => ?_)
        · exact absurd hc5 (show ¬ ((0 : Int) ≠ 0) by omega)
        · clear hc5
          refine jw_W_n 1 (i' := 41) (ls' := [some (.inr (.inr 103))]) (st' := [.inl 0]) rfl ?_
          refine jw_W_ir rfl ?_
          exact g2 (by omega) ho6 σx (by rw [hs]; exact jo_f_up hf (by omega)) (by rw [hs, jw_up_eq])
      · rename jw_H => σ1
        show jw_W (js_S n) _ md_204 39 [some (.inr (.inr 103))] [.inl 1] σ1 _
        refine jw_W_if rfl (by unfold jw_rg; omega) (fun hc6 => ?_) (fun hc6 => ?_)
        · clear hc6
          by_cases hbg : jo_bang (jk_h b m i) = 10
          · rw [hbg] at g1
            exact g1 (by omega) ho6 σ1 (jo_v_c hv (by show 10 ≤ (10 : Int) ∧ (10 : Int) ≤ 13; omega)) hR1 (jo_f_tr hf hf1)
          · exfalso
            unfold jo_bang at hbg
            first | (rw [if_pos (by omega)] at hbg; omega) | (rw [if_neg (by omega)] at hbg; omega)
        · exact absurd hc6 (show ¬ ¬ ((1 : Int) ≠ 0) by omega)
  · have hc1 : ¬ ((jk_h b m i) = 33) := hc1
    refine jw_W_n 1 (i' := 27) (ls' := [some (.inr (.inr 103))]) (st' := [.inr (.inr 103)]) rfl ?_
    refine jw_W_call (as := [.inr (.inr 103)]) (rest := []) rfl rfl rfl rfl (Nat.le_of_ble_eq_true rfl) (.inr rfl) (jk_hereR ht) (by omega) ?_ rfl
    rintro r1 σz ⟨rfl, hs⟩
    rw [hs]
    rw [em, h8]
    show jw_W (js_S n) _ md_204 28 [some (.inr (.inr 103))] [.inl (jk_h b m i)] σ _
    refine jw_W_n 1 (i' := 29) (ls' := [some (.inr (.inr 103))]) (st' := [.inl 40, .inl (jk_h b m i)]) rfl ?_
    refine jw_W_ic rfl (by unfold jw_rg; omega) (by unfold jw_rg; omega) (fun hc7 => ?_) (fun hc7 => ?_)
    · have hc7 : (jk_h b m i) ≠ 40 := hc7
      refine jw_W_n 1 (i' := 43) (ls' := [some (.inr (.inr 103))]) (st' := [.inr (.inr 103)]) rfl ?_
      refine jw_W_call (as := [.inr (.inr 103)]) (rest := []) rfl rfl rfl rfl (Nat.le_of_ble_eq_true rfl) (.inr rfl) (jo_readsCompared hR0 (jo_v_b hv) (k := (6 - o).toNat) (by omega)) (by omega) ?_ rfl
      rintro r1 σ1 (⟨rfl, hfa, hz, hv1⟩ | ⟨rfl, hfa, hz, hR1⟩)
      · rename jw_H => σa
        show jw_W (js_S n) _ md_204 44 [some (.inr (.inr 103))] [.inl 0] σa _
        refine jw_W_if rfl (by unfold jw_rg; omega) (fun hc8 => ?_) (fun hc8 => ?_)
        · exact absurd hc8 (show ¬ ((0 : Int) ≠ 0) by omega)
        · clear hc8
          refine jw_W_n 1 (i' := 46) (ls' := [some (.inr (.inr 103))]) (st' := [.inl 0]) rfl ?_
          refine jw_W_ir rfl ?_
          exact g4 (by omega) (by omega) hz σa (jo_f_tr hf hfa) hv1
      · rename jw_H => σ1
        show jw_W (js_S n) _ md_204 44 [some (.inr (.inr 103))] [.inl 1] σ1 _
        refine jw_W_if rfl (by unfold jw_rg; omega) (fun hc9 => ?_) (fun hc9 => ?_)
        · clear hc9
          exact g3 (by omega) (by omega) hz σ1 (jo_v_en W hv) hR1 (jo_f_tr hf hfa)
        · exact absurd hc9 (show ¬ ¬ ((1 : Int) ≠ 0) by omega)
    · have hc7 : (jk_h b m i) = 40 := Classical.not_not.mp hc7
      refine jw_W_n 2 (i' := 32) (ls' := [some (.inr (.inr 103))]) (st' := [.inr (.inr 103), .inr (.inr 103)]) rfl ?_
      refine jw_W_call (as := [.inr (.inr 103)]) (rest := [.inr (.inr 103)]) rfl rfl rfl rfl (Nat.le_of_ble_eq_true rfl) (.inr rfl) (jk_hereR ht) (by omega) ?_ rfl
      rintro r1 σz ⟨rfl, hs⟩
      rw [hs]
      rw [em, h8]
      show jw_W (js_S n) _ md_204 33 [some (.inr (.inr 103))] [.inl (jk_h b m i), .inr (.inr 103)] σ _
      refine jw_W_n 1 (i' := 34) (ls' := [some (.inr (.inr 103))]) (st' := [.inl 33, .inl (jk_h b m i), .inr (.inr 103)]) rfl ?_
      refine jw_W_ic rfl (by unfold jw_rg; omega) (by unfold jw_rg; omega) (fun hc10 => ?_) (fun hc10 => ?_)
      · have hc10 : (jk_h b m i) ≠ 33 := hc10
        refine jw_W_n 1 (i' := 38) (ls' := [some (.inr (.inr 103))]) (st' := [.inl 13, .inr (.inr 103)]) rfl ?_
        refine jw_W_call (as := [.inr (.inr 103), .inl 13]) (rest := []) rfl rfl rfl rfl (Nat.le_of_ble_eq_true rfl) (.inr rfl) (jo_opens hR0 (x := 13) (by omega) (hlt (by omega))) (by omega) ?_ rfl
        rintro r1 σ1 (⟨rfl, ho6, hs⟩ | ⟨rfl, ho6, hf1, hR1⟩)
        · rename jw_H => σx
          show jw_W (js_S n) _ md_204 39 [some (.inr (.inr 103))] [.inl 0] σx _
          refine jw_W_if rfl (by unfold jw_rg; omega) (fun hc11 => ?_) (fun hc11 => ?_)
          · exact absurd hc11 (show ¬ ((0 : Int) ≠ 0) by omega)
          · clear hc11
            refine jw_W_n 1 (i' := 41) (ls' := [some (.inr (.inr 103))]) (st' := [.inl 0]) rfl ?_
            refine jw_W_ir rfl ?_
            exact g2 (by omega) ho6 σx (by rw [hs]; exact jo_f_up hf (by omega)) (by rw [hs, jw_up_eq])
        · rename jw_H => σ1
          show jw_W (js_S n) _ md_204 39 [some (.inr (.inr 103))] [.inl 1] σ1 _
          refine jw_W_if rfl (by unfold jw_rg; omega) (fun hc12 => ?_) (fun hc12 => ?_)
          · clear hc12
            by_cases hbg : jo_bang (jk_h b m i) = 13
            · rw [hbg] at g1
              exact g1 (by omega) ho6 σ1 (jo_v_c hv (by show 10 ≤ (13 : Int) ∧ (13 : Int) ≤ 13; omega)) hR1 (jo_f_tr hf hf1)
            · exfalso
              unfold jo_bang at hbg
              first | (rw [if_pos (by omega)] at hbg; omega) | (rw [if_neg (by omega)] at hbg; omega)
          · exact absurd hc12 (show ¬ ¬ ((1 : Int) ≠ 0) by omega)
      · have hc10 : (jk_h b m i) = 33 := Classical.not_not.mp hc10
        refine jw_W_n 2 (i' := 38) (ls' := [some (.inr (.inr 103))]) (st' := [.inl 10, .inr (.inr 103)]) rfl ?_
        refine jw_W_call (as := [.inr (.inr 103), .inl 10]) (rest := []) rfl rfl rfl rfl (Nat.le_of_ble_eq_true rfl) (.inr rfl) (jo_opens hR0 (x := 10) (by omega) (hlt (by omega))) (by omega) ?_ rfl
        rintro r1 σ1 (⟨rfl, ho6, hs⟩ | ⟨rfl, ho6, hf1, hR1⟩)
        · rename jw_H => σx
          show jw_W (js_S n) _ md_204 39 [some (.inr (.inr 103))] [.inl 0] σx _
          refine jw_W_if rfl (by unfold jw_rg; omega) (fun hc13 => ?_) (fun hc13 => ?_)
          · exact absurd hc13 (show ¬ ((0 : Int) ≠ 0) by omega)
          · clear hc13
            refine jw_W_n 1 (i' := 41) (ls' := [some (.inr (.inr 103))]) (st' := [.inl 0]) rfl ?_
            refine jw_W_ir rfl ?_
            exact g2 (by omega) ho6 σx (by rw [hs]; exact jo_f_up hf (by omega)) (by rw [hs, jw_up_eq])
        · rename jw_H => σ1
          show jw_W (js_S n) _ md_204 39 [some (.inr (.inr 103))] [.inl 1] σ1 _
          refine jw_W_if rfl (by unfold jw_rg; omega) (fun hc14 => ?_) (fun hc14 => ?_)
          · clear hc14
            by_cases hbg : jo_bang (jk_h b m i) = 10
            · rw [hbg] at g1
              exact g1 (by omega) ho6 σ1 (jo_v_c hv (by show 10 ≤ (10 : Int) ∧ (10 : Int) ≤ 13; omega)) hR1 (jo_f_tr hf hf1)
            · exfalso
              unfold jo_bang at hbg
              first | (rw [if_pos (by omega)] at hbg; omega) | (rw [if_neg (by omega)] at hbg; omega)
          · exact absurd hc14 (show ¬ ¬ ((1 : Int) ≠ 0) by omega)
theorem jo_E_step {n : Nat} {b : Int → Int} {d m : Int} {σ0 : jw_H} {Q : Option jw_V → jw_H → Prop} {i o : Int} {W c : jo_C} (g5 : jk_h b m i = 41 → ∃ V c', jo_ln true W c = ((13, 0) :: V, c') ∧ ((V ≠ [] ∧ jo_ex (jo_CE n b d m σ0 Q) (i + 1) (jo_en V c' (o - 1))) ∨ (V = [] ∧ jo_CD b d m σ0 Q (i + 1) c'))) (g6 : jk_h b m i = 38 → jo_CT n b d m σ0 Q (i + 1) ((11, ((jo_ln false W c).2.length : Int)) :: (jo_ln false W c).1) ((jo_ln false W c).2 ++ [(11, -1)]) o) (g7 : jk_h b m i = 124 → jo_CT n b d m σ0 Q (i + 1) ((12, ((jo_ln true W c).2.length : Int)) :: (jo_ln true W c).1) ((jo_ln true W c).2 ++ [(12, -1)]) o) (g8 : jk_h b m i ≠ 41 → jk_h b m i ≠ 38 → jk_h b m i ≠ 124 → jo_Er σ0 Q (-1000 * 1 - i)) : jo_CE n b d m σ0 Q i W c o := by
  intro σ hv hR hf
  have hR0 := hR
  obtain ⟨ht, em, h240, h8, hi, h12, ho, h13, h14, hb, hc, hw⟩ := hR
  have hh := jk_h_rg (b := b) (n := m) (i := i) (by omega) (fun j j0 j1 => (ht.2.2 j j0 (by omega)).2.2)
  have hlt := jk_h_lt (b := b) (m := m) (i := i)
  refine jw_W_n 1 (i' := 48) (ls' := [some (.inr (.inr 103))]) (st' := [.inr (.inr 103)]) rfl ?_
  refine jw_W_call (as := [.inr (.inr 103)]) (rest := []) rfl rfl rfl rfl (Nat.le_of_ble_eq_true rfl) (.inr rfl) (jk_hereR ht) (by omega) ?_ rfl
  rintro r1 σz ⟨rfl, hs⟩
  rw [hs]
  rw [em, h8]
  show jw_W (js_S n) _ md_204 49 [some (.inr (.inr 103))] [.inl (jk_h b m i)] σ _
  refine jw_W_n 1 (i' := 50) (ls' := [some (.inr (.inr 103))]) (st' := [.inl 41, .inl (jk_h b m i)]) rfl ?_
  refine jw_W_ic rfl (by unfold jw_rg; omega) (by unfold jw_rg; omega) (fun hc1 => ?_) (fun hc1 => ?_)
  · have hc1 : (jk_h b m i) ≠ 41 := hc1
    refine jw_W_n 1 (i' := 81) (ls' := [some (.inr (.inr 103))]) (st' := [.inr (.inr 103)]) rfl ?_
    refine jw_W_call (as := [.inr (.inr 103)]) (rest := []) rfl rfl rfl rfl (Nat.le_of_ble_eq_true rfl) (.inr rfl) (jk_hereR ht) (by omega) ?_ rfl
    rintro r1 σz ⟨rfl, hs⟩
    rw [hs]
    rw [em, h8]
    show jw_W (js_S n) _ md_204 82 [some (.inr (.inr 103))] [.inl (jk_h b m i)] σ _
    refine jw_W_n 1 (i' := 83) (ls' := [some (.inr (.inr 103))]) (st' := [.inl 38, .inl (jk_h b m i)]) rfl ?_
    refine jw_W_ic rfl (by unfold jw_rg; omega) (by unfold jw_rg; omega) (fun hc2 => ?_) (fun hc2 => ?_)
    · have hc2 : (jk_h b m i) = 38 := hc2
      refine jw_W_n 2 (i' := 96) (ls' := [some (.inr (.inr 103))]) (st' := [.inr (.inr 103), .inr (.inr 103)]) rfl ?_
      refine jw_W_call (as := [.inr (.inr 103)]) (rest := [.inr (.inr 103)]) rfl rfl rfl rfl (Nat.le_of_ble_eq_true rfl) (.inr rfl) (jk_hereR ht) (by omega) ?_ rfl
      rintro r1 σz ⟨rfl, hs⟩
      rw [hs]
      rw [em, h8]
      show jw_W (js_S n) _ md_204 97 [some (.inr (.inr 103))] [.inl (jk_h b m i), .inr (.inr 103)] σ _
      refine jw_W_n 1 (i' := 98) (ls' := [some (.inr (.inr 103))]) (st' := [.inl 124, .inl (jk_h b m i), .inr (.inr 103)]) rfl ?_
      refine jw_W_ic rfl (by unfold jw_rg; omega) (by unfold jw_rg; omega) (fun hc3 => ?_) (fun hc3 => ?_)
      · have hc3 : (jk_h b m i) ≠ 124 := hc3
        refine jw_W_n 1 (i' := 102) (ls' := [some (.inr (.inr 103))]) (st' := [.inl 0, .inr (.inr 103)]) rfl ?_
        refine jw_W_call (as := [.inr (.inr 103), .inl 0]) (rest := []) rfl rfl rfl rfl (Nat.le_of_ble_eq_true rfl) (.inr rfl) (jo_lands hR0 (a := 0) (all := false) (by decide)) (by omega) ?_ rfl
        rintro r1 σ1 ⟨rfl, hf1, hR1⟩
        rename jw_H => σ1
        have hR1v := jo_v_ln (all := false) W (c := c) hv
        have hR1c := hR1
        obtain ⟨ht1, em1, -, h81, hi1, h121, ho1, h131, h141, hb1, -, -⟩ := hR1c
        show jw_W (js_S n) _ md_204 103 [some (.inr (.inr 103))] [] σ1 _
        refine jw_W_n 2 (i' := 105) (ls' := [some (.inr (.inr 103))]) (st' := [.inr (.inr 103), .inr (.inr 103)]) rfl ?_
        refine jw_W_call (as := [.inr (.inr 103)]) (rest := [.inr (.inr 103)]) rfl rfl rfl rfl (Nat.le_of_ble_eq_true rfl) (.inr rfl) (jk_hereR ht1) (by omega) ?_ rfl
        rintro r1 σz ⟨rfl, hs⟩
        rw [hs]
        rw [em1, h81]
        show jw_W (js_S n) _ md_204 106 [some (.inr (.inr 103))] [.inl (jk_h b m i), .inr (.inr 103)] σ1 _
        refine jw_W_n 1 (i' := 107) (ls' := [some (.inr (.inr 103))]) (st' := [.inl 38, .inl (jk_h b m i), .inr (.inr 103)]) rfl ?_
        refine jw_W_ic rfl (by unfold jw_rg; omega) (by unfold jw_rg; omega) (fun hc4 => ?_) (fun hc4 => ?_)
        · have hc4 : (jk_h b m i) ≠ 38 := hc4
          refine jw_W_n 1 (i' := 111) (ls' := [some (.inr (.inr 103))]) (st' := [.inl 12, .inr (.inr 103)]) rfl ?_
          refine jw_W_call (as := [.inr (.inr 103), .inl 12]) (rest := []) rfl rfl rfl rfl (Nat.le_of_ble_eq_true rfl) (.inr rfl) (jo_jumps hR1 (x := 12) (by omega) (hlt (by omega))) (by omega) ?_ rfl
          rintro r1 σ2 ⟨rfl, hf2, hR2⟩
          rename jw_H => σ2
          show jw_W (js_S n) _ md_204 112 [some (.inr (.inr 103))] [] σ2 _
          refine jw_W_n 1 (i' := 22) (ls' := [some (.inr (.inr 103))]) (st' := []) rfl ?_
          first | exact g7 (by omega) σ2 (jo_v_c hR1v (by show 10 ≤ (12 : Int) ∧ (12 : Int) ≤ 13; omega)) hR2 (jo_f_tr hf (jo_f_tr hf1 hf2)) | (exfalso; omega)
        · have hc4 : (jk_h b m i) = 38 := Classical.not_not.mp hc4
          refine jw_W_n 2 (i' := 111) (ls' := [some (.inr (.inr 103))]) (st' := [.inl 11, .inr (.inr 103)]) rfl ?_
          refine jw_W_call (as := [.inr (.inr 103), .inl 11]) (rest := []) rfl rfl rfl rfl (Nat.le_of_ble_eq_true rfl) (.inr rfl) (jo_jumps hR1 (x := 11) (by omega) (hlt (by omega))) (by omega) ?_ rfl
          rintro r1 σ2 ⟨rfl, hf2, hR2⟩
          rename jw_H => σ2
          show jw_W (js_S n) _ md_204 112 [some (.inr (.inr 103))] [] σ2 _
          refine jw_W_n 1 (i' := 22) (ls' := [some (.inr (.inr 103))]) (st' := []) rfl ?_
          first | exact g6 (by omega) σ2 (jo_v_c hR1v (by show 10 ≤ (11 : Int) ∧ (11 : Int) ≤ 13; omega)) hR2 (jo_f_tr hf (jo_f_tr hf1 hf2)) | (exfalso; omega)
      · have hc3 : (jk_h b m i) = 124 := Classical.not_not.mp hc3
        refine jw_W_n 2 (i' := 102) (ls' := [some (.inr (.inr 103))]) (st' := [.inl 1, .inr (.inr 103)]) rfl ?_
        refine jw_W_call (as := [.inr (.inr 103), .inl 1]) (rest := []) rfl rfl rfl rfl (Nat.le_of_ble_eq_true rfl) (.inr rfl) (jo_lands hR0 (a := 1) (all := true) (by decide)) (by omega) ?_ rfl
        rintro r1 σ1 ⟨rfl, hf1, hR1⟩
        rename jw_H => σ1
        have hR1v := jo_v_ln (all := true) W (c := c) hv
        have hR1c := hR1
        obtain ⟨ht1, em1, -, h81, hi1, h121, ho1, h131, h141, hb1, -, -⟩ := hR1c
        show jw_W (js_S n) _ md_204 103 [some (.inr (.inr 103))] [] σ1 _
        refine jw_W_n 2 (i' := 105) (ls' := [some (.inr (.inr 103))]) (st' := [.inr (.inr 103), .inr (.inr 103)]) rfl ?_
        refine jw_W_call (as := [.inr (.inr 103)]) (rest := [.inr (.inr 103)]) rfl rfl rfl rfl (Nat.le_of_ble_eq_true rfl) (.inr rfl) (jk_hereR ht1) (by omega) ?_ rfl
        rintro r1 σz ⟨rfl, hs⟩
        rw [hs]
        rw [em1, h81]
        show jw_W (js_S n) _ md_204 106 [some (.inr (.inr 103))] [.inl (jk_h b m i), .inr (.inr 103)] σ1 _
        refine jw_W_n 1 (i' := 107) (ls' := [some (.inr (.inr 103))]) (st' := [.inl 38, .inl (jk_h b m i), .inr (.inr 103)]) rfl ?_
        refine jw_W_ic rfl (by unfold jw_rg; omega) (by unfold jw_rg; omega) (fun hc5 => ?_) (fun hc5 => ?_)
        · have hc5 : (jk_h b m i) ≠ 38 := hc5
          refine jw_W_n 1 (i' := 111) (ls' := [some (.inr (.inr 103))]) (st' := [.inl 12, .inr (.inr 103)]) rfl ?_
          refine jw_W_call (as := [.inr (.inr 103), .inl 12]) (rest := []) rfl rfl rfl rfl (Nat.le_of_ble_eq_true rfl) (.inr rfl) (jo_jumps hR1 (x := 12) (by omega) (hlt (by omega))) (by omega) ?_ rfl
          rintro r1 σ2 ⟨rfl, hf2, hR2⟩
          rename jw_H => σ2
          show jw_W (js_S n) _ md_204 112 [some (.inr (.inr 103))] [] σ2 _
          refine jw_W_n 1 (i' := 22) (ls' := [some (.inr (.inr 103))]) (st' := []) rfl ?_
          first | exact g7 (by omega) σ2 (jo_v_c hR1v (by show 10 ≤ (12 : Int) ∧ (12 : Int) ≤ 13; omega)) hR2 (jo_f_tr hf (jo_f_tr hf1 hf2)) | (exfalso; omega)
        · have hc5 : (jk_h b m i) = 38 := Classical.not_not.mp hc5
          refine jw_W_n 2 (i' := 111) (ls' := [some (.inr (.inr 103))]) (st' := [.inl 11, .inr (.inr 103)]) rfl ?_
          refine jw_W_call (as := [.inr (.inr 103), .inl 11]) (rest := []) rfl rfl rfl rfl (Nat.le_of_ble_eq_true rfl) (.inr rfl) (jo_jumps hR1 (x := 11) (by omega) (hlt (by omega))) (by omega) ?_ rfl
          rintro r1 σ2 ⟨rfl, hf2, hR2⟩
          rename jw_H => σ2
          show jw_W (js_S n) _ md_204 112 [some (.inr (.inr 103))] [] σ2 _
          refine jw_W_n 1 (i' := 22) (ls' := [some (.inr (.inr 103))]) (st' := []) rfl ?_
          first | exact g6 (by omega) σ2 (jo_v_c hR1v (by show 10 ≤ (11 : Int) ∧ (11 : Int) ≤ 13; omega)) hR2 (jo_f_tr hf (jo_f_tr hf1 hf2)) | (exfalso; omega)
    · have hc2 : ¬ ((jk_h b m i) = 38) := hc2
      refine jw_W_n 1 (i' := 85) (ls' := [some (.inr (.inr 103))]) (st' := [.inr (.inr 103)]) rfl ?_
      refine jw_W_call (as := [.inr (.inr 103)]) (rest := []) rfl rfl rfl rfl (Nat.le_of_ble_eq_true rfl) (.inr rfl) (jk_hereR ht) (by omega) ?_ rfl
      rintro r1 σz ⟨rfl, hs⟩
      rw [hs]
      rw [em, h8]
      show jw_W (js_S n) _ md_204 86 [some (.inr (.inr 103))] [.inl (jk_h b m i)] σ _
      refine jw_W_n 1 (i' := 87) (ls' := [some (.inr (.inr 103))]) (st' := [.inl 124, .inl (jk_h b m i)]) rfl ?_
      refine jw_W_ic rfl (by unfold jw_rg; omega) (by unfold jw_rg; omega) (fun hc6 => ?_) (fun hc6 => ?_)
      · have hc6 : (jk_h b m i) = 124 := hc6
        refine jw_W_n 2 (i' := 96) (ls' := [some (.inr (.inr 103))]) (st' := [.inr (.inr 103), .inr (.inr 103)]) rfl ?_
        refine jw_W_call (as := [.inr (.inr 103)]) (rest := [.inr (.inr 103)]) rfl rfl rfl rfl (Nat.le_of_ble_eq_true rfl) (.inr rfl) (jk_hereR ht) (by omega) ?_ rfl
        rintro r1 σz ⟨rfl, hs⟩
        rw [hs]
        rw [em, h8]
        show jw_W (js_S n) _ md_204 97 [some (.inr (.inr 103))] [.inl (jk_h b m i), .inr (.inr 103)] σ _
        refine jw_W_n 1 (i' := 98) (ls' := [some (.inr (.inr 103))]) (st' := [.inl 124, .inl (jk_h b m i), .inr (.inr 103)]) rfl ?_
        refine jw_W_ic rfl (by unfold jw_rg; omega) (by unfold jw_rg; omega) (fun hc7 => ?_) (fun hc7 => ?_)
        · have hc7 : (jk_h b m i) ≠ 124 := hc7
          refine jw_W_n 1 (i' := 102) (ls' := [some (.inr (.inr 103))]) (st' := [.inl 0, .inr (.inr 103)]) rfl ?_
          refine jw_W_call (as := [.inr (.inr 103), .inl 0]) (rest := []) rfl rfl rfl rfl (Nat.le_of_ble_eq_true rfl) (.inr rfl) (jo_lands hR0 (a := 0) (all := false) (by decide)) (by omega) ?_ rfl
          rintro r1 σ1 ⟨rfl, hf1, hR1⟩
          rename jw_H => σ1
          have hR1v := jo_v_ln (all := false) W (c := c) hv
          have hR1c := hR1
          obtain ⟨ht1, em1, -, h81, hi1, h121, ho1, h131, h141, hb1, -, -⟩ := hR1c
          show jw_W (js_S n) _ md_204 103 [some (.inr (.inr 103))] [] σ1 _
          refine jw_W_n 2 (i' := 105) (ls' := [some (.inr (.inr 103))]) (st' := [.inr (.inr 103), .inr (.inr 103)]) rfl ?_
          refine jw_W_call (as := [.inr (.inr 103)]) (rest := [.inr (.inr 103)]) rfl rfl rfl rfl (Nat.le_of_ble_eq_true rfl) (.inr rfl) (jk_hereR ht1) (by omega) ?_ rfl
          rintro r1 σz ⟨rfl, hs⟩
          rw [hs]
          rw [em1, h81]
          show jw_W (js_S n) _ md_204 106 [some (.inr (.inr 103))] [.inl (jk_h b m i), .inr (.inr 103)] σ1 _
          refine jw_W_n 1 (i' := 107) (ls' := [some (.inr (.inr 103))]) (st' := [.inl 38, .inl (jk_h b m i), .inr (.inr 103)]) rfl ?_
          refine jw_W_ic rfl (by unfold jw_rg; omega) (by unfold jw_rg; omega) (fun hc8 => ?_) (fun hc8 => ?_)
          · have hc8 : (jk_h b m i) ≠ 38 := hc8
            refine jw_W_n 1 (i' := 111) (ls' := [some (.inr (.inr 103))]) (st' := [.inl 12, .inr (.inr 103)]) rfl ?_
            refine jw_W_call (as := [.inr (.inr 103), .inl 12]) (rest := []) rfl rfl rfl rfl (Nat.le_of_ble_eq_true rfl) (.inr rfl) (jo_jumps hR1 (x := 12) (by omega) (hlt (by omega))) (by omega) ?_ rfl
            rintro r1 σ2 ⟨rfl, hf2, hR2⟩
            rename jw_H => σ2
            show jw_W (js_S n) _ md_204 112 [some (.inr (.inr 103))] [] σ2 _
            refine jw_W_n 1 (i' := 22) (ls' := [some (.inr (.inr 103))]) (st' := []) rfl ?_
            first | exact g7 (by omega) σ2 (jo_v_c hR1v (by show 10 ≤ (12 : Int) ∧ (12 : Int) ≤ 13; omega)) hR2 (jo_f_tr hf (jo_f_tr hf1 hf2)) | (exfalso; omega)
          · have hc8 : (jk_h b m i) = 38 := Classical.not_not.mp hc8
            refine jw_W_n 2 (i' := 111) (ls' := [some (.inr (.inr 103))]) (st' := [.inl 11, .inr (.inr 103)]) rfl ?_
            refine jw_W_call (as := [.inr (.inr 103), .inl 11]) (rest := []) rfl rfl rfl rfl (Nat.le_of_ble_eq_true rfl) (.inr rfl) (jo_jumps hR1 (x := 11) (by omega) (hlt (by omega))) (by omega) ?_ rfl
            rintro r1 σ2 ⟨rfl, hf2, hR2⟩
            rename jw_H => σ2
            show jw_W (js_S n) _ md_204 112 [some (.inr (.inr 103))] [] σ2 _
            refine jw_W_n 1 (i' := 22) (ls' := [some (.inr (.inr 103))]) (st' := []) rfl ?_
            first | exact g6 (by omega) σ2 (jo_v_c hR1v (by show 10 ≤ (11 : Int) ∧ (11 : Int) ≤ 13; omega)) hR2 (jo_f_tr hf (jo_f_tr hf1 hf2)) | (exfalso; omega)
        · have hc7 : (jk_h b m i) = 124 := Classical.not_not.mp hc7
          refine jw_W_n 2 (i' := 102) (ls' := [some (.inr (.inr 103))]) (st' := [.inl 1, .inr (.inr 103)]) rfl ?_
          refine jw_W_call (as := [.inr (.inr 103), .inl 1]) (rest := []) rfl rfl rfl rfl (Nat.le_of_ble_eq_true rfl) (.inr rfl) (jo_lands hR0 (a := 1) (all := true) (by decide)) (by omega) ?_ rfl
          rintro r1 σ1 ⟨rfl, hf1, hR1⟩
          rename jw_H => σ1
          have hR1v := jo_v_ln (all := true) W (c := c) hv
          have hR1c := hR1
          obtain ⟨ht1, em1, -, h81, hi1, h121, ho1, h131, h141, hb1, -, -⟩ := hR1c
          show jw_W (js_S n) _ md_204 103 [some (.inr (.inr 103))] [] σ1 _
          refine jw_W_n 2 (i' := 105) (ls' := [some (.inr (.inr 103))]) (st' := [.inr (.inr 103), .inr (.inr 103)]) rfl ?_
          refine jw_W_call (as := [.inr (.inr 103)]) (rest := [.inr (.inr 103)]) rfl rfl rfl rfl (Nat.le_of_ble_eq_true rfl) (.inr rfl) (jk_hereR ht1) (by omega) ?_ rfl
          rintro r1 σz ⟨rfl, hs⟩
          rw [hs]
          rw [em1, h81]
          show jw_W (js_S n) _ md_204 106 [some (.inr (.inr 103))] [.inl (jk_h b m i), .inr (.inr 103)] σ1 _
          refine jw_W_n 1 (i' := 107) (ls' := [some (.inr (.inr 103))]) (st' := [.inl 38, .inl (jk_h b m i), .inr (.inr 103)]) rfl ?_
          refine jw_W_ic rfl (by unfold jw_rg; omega) (by unfold jw_rg; omega) (fun hc9 => ?_) (fun hc9 => ?_)
          · have hc9 : (jk_h b m i) ≠ 38 := hc9
            refine jw_W_n 1 (i' := 111) (ls' := [some (.inr (.inr 103))]) (st' := [.inl 12, .inr (.inr 103)]) rfl ?_
            refine jw_W_call (as := [.inr (.inr 103), .inl 12]) (rest := []) rfl rfl rfl rfl (Nat.le_of_ble_eq_true rfl) (.inr rfl) (jo_jumps hR1 (x := 12) (by omega) (hlt (by omega))) (by omega) ?_ rfl
            rintro r1 σ2 ⟨rfl, hf2, hR2⟩
            rename jw_H => σ2
            show jw_W (js_S n) _ md_204 112 [some (.inr (.inr 103))] [] σ2 _
            refine jw_W_n 1 (i' := 22) (ls' := [some (.inr (.inr 103))]) (st' := []) rfl ?_
            first | exact g7 (by omega) σ2 (jo_v_c hR1v (by show 10 ≤ (12 : Int) ∧ (12 : Int) ≤ 13; omega)) hR2 (jo_f_tr hf (jo_f_tr hf1 hf2)) | (exfalso; omega)
          · have hc9 : (jk_h b m i) = 38 := Classical.not_not.mp hc9
            refine jw_W_n 2 (i' := 111) (ls' := [some (.inr (.inr 103))]) (st' := [.inl 11, .inr (.inr 103)]) rfl ?_
            refine jw_W_call (as := [.inr (.inr 103), .inl 11]) (rest := []) rfl rfl rfl rfl (Nat.le_of_ble_eq_true rfl) (.inr rfl) (jo_jumps hR1 (x := 11) (by omega) (hlt (by omega))) (by omega) ?_ rfl
            rintro r1 σ2 ⟨rfl, hf2, hR2⟩
            rename jw_H => σ2
            show jw_W (js_S n) _ md_204 112 [some (.inr (.inr 103))] [] σ2 _
            refine jw_W_n 1 (i' := 22) (ls' := [some (.inr (.inr 103))]) (st' := []) rfl ?_
            first | exact g6 (by omega) σ2 (jo_v_c hR1v (by show 10 ≤ (11 : Int) ∧ (11 : Int) ≤ 13; omega)) hR2 (jo_f_tr hf (jo_f_tr hf1 hf2)) | (exfalso; omega)
      · have hc6 : ¬ ((jk_h b m i) = 124) := hc6
        refine jw_W_n 3 (i' := 91) (ls' := [some (.inr (.inr 103))]) (st' := [.inr (.inr 103), .inl 1, .inr (.inr 103)]) rfl ?_
        refine jw_W_gf rfl rfl rfl ?_
        show jw_W (js_S n) _ md_204 92 [some (.inr (.inr 103))] [.inl (σ 103 8), .inl 1, .inr (.inr 103)] σ _
        refine jw_W_call (as := [.inr (.inr 103), .inl 1, .inl (σ 103 8)]) (rest := []) rfl rfl rfl rfl (Nat.le_of_ble_eq_true rfl) (.inr rfl) (jk_wrongAt (by omega) (by omega)) (by omega) ?_ rfl
        rintro r1 σz ⟨rfl, hs⟩
        rename jw_H => σw
        show jw_W (js_S n) _ md_204 93 [some (.inr (.inr 103))] [.inl 0] σw _
        refine jw_W_ir rfl ?_
        exact g8 (by omega) (by omega) (by omega) σw (by rw [hs]; exact jo_f_up hf (by omega)) (by rw [hs, jw_up_eq, h8])
  · have hc1 : (jk_h b m i) = 41 := Classical.not_not.mp hc1
    refine jw_W_n 2 (i' := 53) (ls' := [some (.inr (.inr 103))]) (st' := [.inl 1, .inr (.inr 103)]) rfl ?_
    refine jw_W_call (as := [.inr (.inr 103), .inl 1]) (rest := []) rfl rfl rfl rfl (Nat.le_of_ble_eq_true rfl) (.inr rfl) (jo_lands hR0 (a := 1) (all := true) (by decide)) (by omega) ?_ rfl
    rintro r1 σ1 ⟨rfl, hf1, hR1⟩
    rename jw_H => σ1
    have hR1v := jo_v_ln (all := true) W (c := c) hv
    have hR1c := hR1
    obtain ⟨ht1, em1, -, h81, hi1, h121, ho1, h131, h141, hb1, -, -⟩ := hR1c
    show jw_W (js_S n) _ md_204 54 [some (.inr (.inr 103))] [] σ1 _
    refine jw_W_n 2 (i' := 56) (ls' := [some (.inr (.inr 103))]) (st' := [.inr (.inr 103), .inr (.inr 103)]) rfl ?_
    refine jw_W_gf rfl rfl rfl ?_
    show jw_W (js_S n) _ md_204 57 [some (.inr (.inr 103))] [.inl (σ1 103 14), .inr (.inr 103)] σ1 _
    refine jw_W_n 2 (i' := 59) (ls' := [some (.inr (.inr 103))]) (st' := [.inl (σ1 103 14 - 1), .inr (.inr 103)]) rfl ?_
    refine jw_W_pf (a := σ1 103 14 - 1) rfl (by omega) rfl rfl rfl rfl rfl ?_
    refine jw_W_n 2 (i' := 62) (ls' := [some (.inr (.inr 103))]) (st' := [.inr (.inr 103), .inr (.inr 103)]) rfl ?_
    refine jw_W_gf rfl rfl rfl ?_
    show jw_W (js_S n) _ md_204 63 [some (.inr (.inr 103))] [.inl (σ1 103 12), .inr (.inr 103)] ((jw_up σ1 103 14 (σ1 103 14 - 1))) _
    refine jw_W_n 2 (i' := 65) (ls' := [some (.inr (.inr 103))]) (st' := [.inl (σ1 103 12 - 1), .inr (.inr 103)]) rfl ?_
    refine jw_W_pf (a := σ1 103 12 - 1) rfl (by omega) rfl rfl rfl rfl rfl ?_
    refine jw_W_n 2 (i' := 68) (ls' := [some (.inr (.inr 103))]) (st' := [.inr (.inr 103), .inr (.inr 103)]) rfl ?_
    refine jw_W_gf rfl rfl rfl ?_
    show jw_W (js_S n) _ md_204 69 [some (.inr (.inr 103))] [.inl (σ1 103 8), .inr (.inr 103)] ((jw_up (jw_up σ1 103 14 (σ1 103 14 - 1)) 103 12 (σ1 103 12 - 1))) _
    refine jw_W_n 2 (i' := 71) (ls' := [some (.inr (.inr 103))]) (st' := [.inl (σ1 103 8 + 1), .inr (.inr 103)]) rfl ?_
    refine jw_W_pf (a := σ1 103 8 + 1) rfl (by omega) rfl rfl rfl rfl rfl ?_
    refine jw_W_n 1 (i' := 73) (ls' := [some (.inr (.inr 103))]) (st' := [.inr (.inr 103)]) rfl ?_
    obtain ⟨V, c', hcl, hP⟩ := g5 (by omega)
    rw [hcl] at hR1 h141 hR1v
    obtain ⟨σ2, hs2⟩ : ∃ s : jw_H, s = jw_up (jw_up (jw_up σ1 103 14 (σ1 103 14 - 1)) 103 12 (σ1 103 12 - 1)) 103 8 (σ1 103 8 + 1) := ⟨_, rfl⟩
    show jw_W (js_S n) _ _ _ _ _ (jw_up (jw_up (jw_up σ1 103 14 (σ1 103 14 - 1)) 103 12 (σ1 103 12 - 1)) 103 8 (σ1 103 8 + 1)) _
    rw [← hs2]
    have hf2 : jo_f σ1 σ2 := by rw [hs2]; exact jo_f_up (jo_f_up (jo_f_up (jo_f_rf σ1) (by omega)) (by omega)) (by omega)
    have hR2 : jo_rp b d m (i + 1) (o - 1) V c' σ2 := jo_rp_shut (q := (13, 0)) hR1 (.inl rfl) hf2 (by rw [hs2, jw_up_eq, h81]) (hlt (by omega)) (by rw [hs2]; rfl) (by rw [hs2]; rfl) (by rw [hs2]; rfl) (by rw [hs2]; rfl) (by rw [hs2]; rfl)
    have hR2c := hR2
    obtain ⟨ht2, em2, -, h82, hi2, h122, ho2, h132, h142, hb2, -, -⟩ := hR2c
    refine jw_W_gf rfl rfl rfl ?_
    show jw_W (js_S n) _ md_204 74 [some (.inr (.inr 103))] [.inl (σ2 103 14)] σ2 _
    rw [h142]
    refine jw_W_if rfl (by unfold jw_rg; omega) (fun hc10 => ?_) (fun hc10 => ?_)
    · have hc10 : ((V.length : Int)) ≠ 0 := hc10
      refine jw_W_n 1 (i' := 78) (ls' := [some (.inr (.inr 103))]) (st' := [.inr (.inr 103)]) rfl ?_
      have hV0 : V ≠ [] := fun w => by rw [w] at h142 hc10; exact hc10 rfl
      refine jw_W_call (as := [.inr (.inr 103)]) (rest := []) rfl rfl rfl rfl (Nat.le_of_ble_eq_true rfl) (.inr rfl) (jo_endsPiece hR2) (by omega) ?_ rfl
      rintro r1 σ3 ⟨rfl, hf3, hR3⟩
      rename jw_H => σ3
      show jw_W (js_S n) _ md_204 79 [some (.inr (.inr 103))] [] σ3 _
      refine jw_W_n 1 (i' := 47) (ls' := [some (.inr (.inr 103))]) (st' := []) rfl ?_
      rcases hP with ⟨hV, hP⟩ | ⟨hV, hP⟩
      · exact hP σ3 (jo_v_en V (jo_v_t hR1v)) hR3 (jo_f_tr hf (jo_f_tr hf1 (jo_f_tr hf2 hf3)))
      · rw [hV] at hV0
        exact absurd rfl hV0
    · have hc10 : ((V.length : Int)) = 0 := Classical.not_not.mp hc10
      refine jw_W_n 1 (i' := 76) (ls' := [some (.inr (.inr 103))]) (st' := [.inl 1]) rfl ?_
      refine jw_W_ir rfl ?_
      have hV0 : V = [] := List.eq_nil_of_length_eq_zero (by omega)
      rcases hP with ⟨hV, hP⟩ | ⟨hV, hP⟩
      · exact absurd hV0 hV
      · rw [hV0] at hR2
        exact hP σ2 (o - 1) (jo_f_tr hf (jo_f_tr hf1 hf2)) hR2
theorem jo_cond_cc {n : Nat} {b : Int → Int} {d m : Int} {σ0 : jw_H} {Q : Option jw_V → jw_H → Prop} : jo_cc b m (jo_Er σ0 Q) (jo_CT n b d m σ0 Q) (jo_CE n b d m σ0 Q) (jo_CD b d m σ0 Q) := by
  refine ⟨fun i W c o h h6 k => jo_T_step (fun _ _ => k) (fun _ h7 => by omega) (fun h7 h8 => absurd h (fun w => w.elim h7 h8)) (fun h7 h8 => absurd h (fun w => w.elim h7 h8)), fun i W c o h h6 k => jo_T_step (fun _ h7 => by omega) (fun _ _ => k) (fun h7 h8 => absurd h (fun w => w.elim h7 h8)) (fun h7 h8 => absurd h (fun w => w.elim h7 h8)), fun i W c o k h1 h2 hk k1 k2 => ?_, fun i W c o V c' h hc hV k => jo_E_step (fun _ => ⟨V, c', hc, .inl ⟨hV, k⟩⟩) (fun h7 => by omega) (fun h7 => by omega) (fun h7 => absurd h h7), fun i W c o c' h hc k => jo_E_step (fun _ => ⟨[], c', hc, .inr ⟨rfl, k⟩⟩) (fun h7 => by omega) (fun h7 => by omega) (fun h7 => absurd h h7), fun i W c o V c' h hc k => jo_E_step (fun h7 => by omega) (fun _ => by rw [hc]; exact k) (fun h7 => by omega) (fun _ h7 => absurd h h7), fun i W c o V c' h hc k => jo_E_step (fun h7 => by omega) (fun h7 => by omega) (fun _ => by rw [hc]; exact k) (fun _ _ h7 => absurd h h7), fun i W c o h1 h2 h3 k => jo_E_step (fun h7 => absurd h7 h1) (fun h7 => absurd h7 h2) (fun h7 => absurd h7 h3) (fun _ _ _ => k)⟩
  have hk2 : (6 - o).toNat = k := by omega
  refine jo_T_step (fun h7 => absurd h7 (fun w => w.elim h1 h2)) (fun h7 => absurd h7 (fun w => w.elim h1 h2)) (fun _ _ => ?_) (fun _ _ => ?_)
  · rw [hk2]
    exact k2
  · rw [hk2]
    exact k1
def jo_nq (b : Int → Int) (d m i : Int) (c : jo_C) (σ : jw_H) (r : Option jw_V) (σ' : jw_H) : Prop := (r = some (.inl 0) ∧ jo_f σ σ' ∧ jk_h b m i ≠ 40 ∧ σ' 103 10 = -1000 * 1 - i) ∨ (r = some (.inl 0) ∧ jo_f σ σ' ∧ jk_h b m i = 40 ∧ (jl_cnd b m (jl_T b m 5) (i + 1)).1 ≠ 0 ∧ σ' 103 10 = (jl_cnd b m (jl_T b m 5) (i + 1)).1) ∨ (r = some (.inl 0) ∧ jo_f σ σ' ∧ jk_h b m i = 40 ∧ (jl_cnd b m (jl_T b m 5) (i + 1)).1 = 0 ∧ jk_h b m (jl_cnd b m (jl_T b m 5) (i + 1)).2.1 ≠ 41 ∧ σ' 103 10 = -1000 * 1 - (jl_cnd b m (jl_T b m 5) (i + 1)).2.1) ∨ (r = some (.inl 1) ∧ jo_f σ σ' ∧ jk_h b m i = 40 ∧ (jl_cnd b m (jl_T b m 5) (i + 1)).1 = 0 ∧ jk_h b m (jl_cnd b m (jl_T b m 5) (i + 1)).2.1 = 41 ∧ ∃ o', jo_rp b d m ((jl_cnd b m (jl_T b m 5) (i + 1)).2.1 + 1) o' [] (c ++ (jl_cnd b m (jl_T b m 5) (i + 1)).2.2) σ')
theorem jo_readsCondition {n : Nat} {σ : jw_H} {b : Int → Int} {d m i o : Int} {W c : jo_C} (hR : jo_rp b d m i o W c σ)  : jw_T (js_S n) 7 204 [.inr (.inr 103)] σ (fun r σ' => jo_nq b d m i c σ r σ') := by
  refine jw_T_of (D := 6) (M := mm_204) rfl (Nat.le_of_ble_eq_true rfl) (ls0 := [some (.inr (.inr 103))]) rfl ?_ (by rintro _ _ (⟨rfl, -⟩ | ⟨rfl, -⟩ | ⟨rfl, -⟩ | ⟨rfl, -⟩) <;> rfl)
  have hR0 := hR
  obtain ⟨ht, em, h240, h8, hi, h12, ho, h13, h14, hb, hc, hw⟩ := hR
  have hh := jk_h_rg (b := b) (n := m) (i := i) (by omega) (fun j j0 j1 => (ht.2.2 j j0 (by omega)).2.2)
  have hlt := jk_h_lt (b := b) (m := m) (i := i)
  refine jw_W_n 1 (i' := 1) (ls' := [some (.inr (.inr 103))]) (st' := [.inr (.inr 103)]) rfl ?_
  refine jw_W_call (as := [.inr (.inr 103)]) (rest := []) rfl rfl rfl rfl (Nat.le_of_ble_eq_true rfl) (.inr rfl) (jk_hereR ht) (by omega) ?_ rfl
  rintro r1 σz ⟨rfl, hs⟩
  rw [hs]
  rw [em, h8]
  show jw_W (js_S n) _ md_204 2 [some (.inr (.inr 103))] [.inl (jk_h b m i)] σ _
  refine jw_W_n 1 (i' := 3) (ls' := [some (.inr (.inr 103))]) (st' := [.inl 40, .inl (jk_h b m i)]) rfl ?_
  refine jw_W_ic rfl (by unfold jw_rg; omega) (by unfold jw_rg; omega) (fun hc1 => ?_) (fun hc1 => ?_)
  · have hc1 : (jk_h b m i) = 40 := hc1
    refine jw_W_n 2 (i' := 12) (ls' := [some (.inr (.inr 103))]) (st' := [.inl 0, .inr (.inr 103)]) rfl ?_
    refine jw_W_pf (a := 0) rfl (by omega) rfl rfl rfl rfl rfl ?_
    refine jw_W_n 2 (i' := 15) (ls' := [some (.inr (.inr 103))]) (st' := [.inl 0, .inr (.inr 103)]) rfl ?_
    refine jw_W_pf (a := 0) rfl (by omega) rfl rfl rfl rfl rfl ?_
    obtain ⟨σ2, hs2⟩ : ∃ s : jw_H, s = jw_up (jw_up σ 103 12 0) 103 14 0 := ⟨_, rfl⟩
    show jw_W (js_S n) _ _ _ _ _ (jw_up (jw_up σ 103 12 0) 103 14 0) _
    rw [← hs2]
    have hf2 : jo_f σ σ2 := by rw [hs2]; exact jo_f_up (jo_f_up (jo_f_rf σ) (by omega)) (by omega)
    have hR2 : jo_rp b d m i 0 [] c σ2 := jo_rp_mk hR0 hf2 (by rw [hs2]; exact h8) hi (by rw [hs2]; rfl) ⟨rfl, by omega⟩ (by rw [hs2]; exact h13) (by rw [hs2]; rfl) (by show (c.length : Int) + ((0 : Nat) : Int) + d ≤ i ∧ ((0 : Nat) : Int) ≤ i ∧ 0 ≤ d; omega) (jo_cr_fr hc (by rw [hs2]; rfl)) trivial
    refine jw_W_n 2 (i' := 18) (ls' := [some (.inr (.inr 103))]) (st' := [.inl 13, .inr (.inr 103)]) rfl ?_
    refine jw_W_call (as := [.inr (.inr 103), .inl 13]) (rest := []) rfl rfl rfl rfl (Nat.le_of_ble_eq_true rfl) (.inr rfl) (jo_opens hR2 (x := 13) (by omega) (hlt (by omega))) (by omega) ?_ rfl
    rintro r1 σ1 (⟨rfl, ho6, hs⟩ | ⟨rfl, ho6, hf1, hR1⟩)
    · rename jw_H => σx
      exfalso; omega

    · rename jw_H => σ1
      show jw_W (js_S n) _ md_204 19 [some (.inr (.inr 103))] [.inl 1] σ1 _
      refine jw_W_if rfl (by unfold jw_rg; omega) (fun hc3 => ?_) (fun hc3 => ?_)
      · clear hc3
        have hT : jo_CT n b d m σ (jo_nq b d m i c σ) (i + 1) [(13, 0)] c 1 := jo_cond (jo_cond_cc (d := d)) h240 (by omega) (fun h σ' hf' he => .inr (.inl ⟨rfl, hf', by omega, h, he⟩)) (fun h h41 σ' o' hf' hR' => .inr (.inr (.inr ⟨rfl, hf', by omega, h, h41, o', hR'⟩))) (fun h h41 σ' hf' he => .inr (.inr (.inl ⟨rfl, hf', by omega, h, h41, he⟩)))
        exact hT σ1 (fun q hq => by rcases List.mem_cons.mp hq with rfl | hq; exact ⟨by show (10 : Int) ≤ 13; omega, by show (13 : Int) ≤ 13; omega⟩; exact absurd hq List.not_mem_nil) hR1 (jo_f_tr hf2 hf1)
      · exact absurd hc3 (show ¬ ¬ ((1 : Int) ≠ 0) by omega)
  · have hc1 : ¬ ((jk_h b m i) = 40) := hc1
    refine jw_W_n 3 (i' := 7) (ls' := [some (.inr (.inr 103))]) (st' := [.inr (.inr 103), .inl 1, .inr (.inr 103)]) rfl ?_
    refine jw_W_gf rfl rfl rfl ?_
    show jw_W (js_S n) _ md_204 8 [some (.inr (.inr 103))] [.inl (σ 103 8), .inl 1, .inr (.inr 103)] σ _
    refine jw_W_call (as := [.inr (.inr 103), .inl 1, .inl (σ 103 8)]) (rest := []) rfl rfl rfl rfl (Nat.le_of_ble_eq_true rfl) (.inr rfl) (jk_wrongAt (by omega) (by omega)) (by omega) ?_ rfl
    rintro r1 σz ⟨rfl, hs⟩
    rename jw_H => σw
    show jw_W (js_S n) _ md_204 9 [some (.inr (.inr 103))] [.inl 0] σw _
    refine jw_W_ir rfl ?_
    exact .inl ⟨rfl, by rw [hs]; exact jo_f_up (jo_f_rf σ) (by omega), by omega, by rw [hs, jw_up_eq, h8]⟩

/-! ===== sums, the reference ===== -/
section JOP
variable {b : Int → Int} {d d' m i o i' o' : Int} {W c : jo_C} {σ υ : jw_H}
theorem jo_rp_note {q : Int × Int} (hR : jo_rp b d m i o W c σ) (hf : jo_f σ υ) (e8 : υ 103 8 = i') (hi' : i ≤ i' ∧ i' ≤ m ∧ d' + 1 + i ≤ d + i' ∧ 0 ≤ d') (e12 : υ 103 12 = σ 103 12) (e13 : υ 103 13 = σ 103 13 + 1) (e14 : υ 103 14 = σ 103 14) (e108 : υ 108 (σ 103 13) = jo_wd q (σ 103 13)) (n108 : ∀ j : Int, j ≠ σ 103 13 → υ 108 j = σ 108 j) (e109 : υ 109 = σ 109) (h1 : 0 ≤ q.1 ∧ q.1 ≤ 12) (h2 : -1 ≤ q.2 ∧ q.2 ≤ 99999) : jo_rp b d' m i' o W (c ++ [q]) υ := by
  have hR0 := hR
  obtain ⟨ht, em, h240, h8, hi, h12, ho, h13, h14, hb, hc, hw⟩ := hR
  have hl1 : ((c ++ [q]).length : Int) = (c.length : Int) + 1 := by
    rw [List.length_append]
    rfl
  rw [h13] at e108 n108
  exact jo_rp_mk hR0 hf e8 (by omega) (by omega) ho (by rw [hl1]; omega) (by omega) (by rw [hl1]; omega) (jo_cr_snoc hc e108 n108 h1 h2) (jo_ws_snoc W (jo_ws_fr W hw (fun j _ => by rw [e109])))
theorem jo_rp_push {s : Int} (hR : jo_rp b d m i o W c σ) (hs : 2 ≤ s ∧ s ≤ 6) (hf : jo_f σ υ) (e8 : υ 103 8 = i + 1) (him : i < m) (e12 : υ 103 12 = σ 103 12) (e13 : υ 103 13 = σ 103 13) (e14 : υ 103 14 = σ 103 14 + 1) (e108 : υ 108 = σ 108) (e109 : υ 109 (σ 103 14) = 1048576 * s) (n109 : ∀ j : Int, j ≠ σ 103 14 → υ 109 j = σ 109 j) : jo_rp b d m (i + 1) o ((s, 0) :: W) c υ := by
  have hR0 := hR
  obtain ⟨ht, em, h240, h8, hi, h12, ho, h13, h14, hb, hc, hw⟩ := hR
  have hop : jo_op ((s, (0 : Int)) :: W) = jo_op W := by
    show (if s = 10 ∨ s = 13 ∨ s = 14 then 1 else 0) + jo_op W = _
    rw [if_neg (by omega), Nat.zero_add]
  have hwt : jo_wt ((s, (0 : Int)) :: W) = 1 + jo_wt W := by
    show (if s = 11 ∨ s = 12 then 0 else 1) + jo_wt W = _
    rw [if_neg (by omega)]
  rw [h14] at e109 n109
  exact jo_rp_mk hR0 hf e8 (by omega) (by omega) ⟨by rw [hop]; exact ho.1, ho.2⟩ (by omega) (by rw [List.length_cons]; omega) (by rw [hwt, List.length_cons]; omega) (jo_cr_fr hc e108) (jo_ws_len W (jo_ws_fr W hw (fun j hj => n109 j (by omega))) (by show _ = 1048576 * s + 0; omega) (by show 2 ≤ s ∧ s ≤ 14; omega) (by show 0 ≤ (0 : Int) ∧ (0 : Int) < 1048576; omega) (fun w => absurd w (by show ¬ (s = 11 ∨ s = 12); omega)))
/-- an open one is closed -/
theorem jo_rp_shut {q : Int × Int} (hR : jo_rp b d m i o (q :: W) c σ) (hq : q.1 = 13 ∨ q.1 = 14) (hf : jo_f σ υ) (e8 : υ 103 8 = i + 1) (him : i < m) (e12 : υ 103 12 = σ 103 12 - 1) (e13 : υ 103 13 = σ 103 13) (e14 : υ 103 14 = σ 103 14 - 1) (e108 : υ 108 = σ 108) (e109 : υ 109 = σ 109) : jo_rp b d m (i + 1) (o - 1) W c υ := by
  have hR0 := hR
  obtain ⟨ht, em, h240, h8, hi, h12, ho, h13, h14, hb, hc, hw⟩ := hR
  have hop : jo_op (q :: W) = 1 + jo_op W := by
    show (if q.1 = 10 ∨ q.1 = 13 ∨ q.1 = 14 then 1 else 0) + jo_op W = _
    rw [if_pos (by omega)]
  have hwt : jo_wt (q :: W) = 1 + jo_wt W := by
    show (if q.1 = 11 ∨ q.1 = 12 then 0 else 1) + jo_wt W = _
    rw [if_neg (by omega)]
  rw [hop] at ho
  rw [hwt, List.length_cons] at hb
  rw [List.length_cons] at h14
  exact jo_rp_mk hR0 hf e8 (by omega) (by omega) ⟨by omega, by omega⟩ (by omega) (by omega) (by omega) (jo_cr_fr hc e108) (jo_ws_fr W hw.2 (fun j _ => by rw [e109]))
/-- what stands below a sum isn't a sign of sums -/
def jo_b (B : jo_C) : Prop := ∀ q V, B = q :: V → 10 ≤ q.1
theorem jo_cl_app {B : jo_C} (hB : jo_b B) (all : Bool) : ∀ (U : jo_C) {c : jo_C}, jo_cl all (U ++ B) c = ((jo_cl all U c).1 ++ B, (jo_cl all U c).2)
  | [], c => by
    match B, hB with
    | [], _ => rfl
    | q :: V, hB =>
      have := hB q V rfl
      exact jo_cl_n (fun w => by omega)
  | q :: U, c => by
    by_cases h : (4 ≤ q.1 ∧ q.1 ≤ 6) ∨ (all = true ∧ 2 ≤ q.1 ∧ q.1 ≤ 3)
    · rw [List.cons_append, jo_cl_y h, jo_cl_y h]
      exact jo_cl_app hB all U
    · rw [List.cons_append, jo_cl_n h, jo_cl_n h]
      rfl
def jo_Er (σ0 : jw_H) (Q : Option jw_V → jw_H → Prop) (x : Int) : Prop := ∀ σ', jo_f σ0 σ' → σ' 103 10 = x → Q (some (.inl 0)) σ'
def jo_PA (n : Nat) (b : Int → Int) (d m : Int) (B : jo_C) (σ0 : jw_H) (Q : Option jw_V → jw_H → Prop) (i : Int) (U c : jo_C) (o : Int) : Prop := ∀ (σ : jw_H) (x2 : Option jw_V), jo_rp b d m i o (U ++ B) c σ → jo_f σ0 σ → jw_W (js_S n) 4 md_199 8 [some (.inr (.inr 103)), some (.inl (B.length : Int)), x2] [] σ Q
def jo_pf (n : Nat) (B : jo_C) (Q : Option jw_V → jw_H → Prop) (r : Option jw_V) (σ' : jw_H) : Prop := (r = some (.inl 0) ∧ Q (some (.inl 0)) σ') ∨ (r = some (.inl 1) ∧ ∀ x2, jw_W (js_S n) 4 md_199 8 [some (.inr (.inr 103)), some (.inl (B.length : Int)), x2] [] σ' Q)
def jo_PF (n : Nat) (b : Int → Int) (d m : Int) (B : jo_C) (σ0 : jw_H) (Q : Option jw_V → jw_H → Prop) (i : Int) (U c : jo_C) (o : Int) : Prop := ∀ (σ : jw_H), jo_rp b d m i o (U ++ B) c σ → jo_f σ0 σ → jw_W (js_S n) 3 md_197 0 [some (.inr (.inr 103)), none] [] σ (jo_pf n B Q)
def jo_Dn (b : Int → Int) (d m : Int) (B : jo_C) (σ0 : jw_H) (Q : Option jw_V → jw_H → Prop) (i : Int) (c : jo_C) (o : Int) : Prop := ∀ σ', jo_f σ0 σ' → jo_rp b d m i o B c σ' → Q (some (.inl 1)) σ'
end JOP
theorem jo_readsNumber2 {n : Nat} {σ : jw_H} {b : Int → Int} {d m i o : Int} {W c : jo_C} (hR : jo_rp b d m i o W c σ) : jw_T (js_S n) 3 190 [.inr (.inr 103)] σ (fun r σ' => (r = some (.inl 0) ∧ jk_f8 σ σ' ∧ (48 ≤ jk_h b m (jl_num b m 5 i 0).2 ∧ jk_h b m (jl_num b m 5 i 0).2 ≤ 57) ∧ σ' 103 10 = -1000 * 2 - (jl_num b m 5 i 0).2) ∨ (r = some (.inl 1) ∧ jk_f8 σ σ' ∧ ¬ (48 ≤ jk_h b m (jl_num b m 5 i 0).2 ∧ jk_h b m (jl_num b m 5 i 0).2 ≤ 57) ∧ σ' 103 11 = (jl_num b m 5 i 0).1 ∧ σ' 103 8 = (jl_num b m 5 i 0).2)) :=
  jw_T_mono (jo_readsNumber hR) (Nat.le_refl _) (fun r σ' h => h.2.elim (fun w => .inl ⟨w.1, h.1, w.2⟩) (fun w => .inr ⟨w.1, h.1, w.2⟩))
theorem jl_fact_no (x : Int) : x = -1 → jl_fact x = -1 := by
  intro h
  subst h
  rfl
theorem jo_F_step {n : Nat} {b : Int → Int} {d m : Int} {B : jo_C} {σ0 : jw_H} {Q : Option jw_V → jw_H → Prop} {i : Int} {U c : jo_C} {o : Int} (g1 : jk_h b m i = 91 → o < 6 → jo_PF n b d m B σ0 Q (i + 1) ((14, 0) :: U) c (o + 1)) (g2 : jk_h b m i = 91 → o = 6 → jo_Er σ0 Q (-1000 * 5 - i)) (g3 : jk_h b m i ≠ 91 → (jl_atom b m i).1 ≠ 0 → jo_Er σ0 Q (jl_atom b m i).1) (g4 : jk_h b m i ≠ 91 → (jl_atom b m i).1 = 0 → jo_PA n b d m B σ0 Q (jl_atom b m i).2.1 U (c ++ (jl_atom b m i).2.2) o) : jo_PF n b d m B σ0 Q i U c o := by
  intro σ hR hf
  have hR0 := hR
  obtain ⟨ht, em, h240, h8, hi, h12, ho, h13, h14, hb, hc, hw⟩ := hR
  have hh := jk_h_rg (b := b) (n := m) (i := i) (by omega) (fun j j0 j1 => (ht.2.2 j j0 (by omega)).2.2)
  have hlt := jk_h_lt (b := b) (m := m) (i := i)
  have hfr := jl_fact_rg (jk_h b m i)
  have hfm := jl_fact_no (jk_h b m i)
  have h13r : 0 ≤ σ 103 13 ∧ σ 103 13 < 260 := by omega
  refine jw_W_n 1 (i' := 1) (ls' := [some (.inr (.inr 103)), none]) (st' := [.inr (.inr 103)]) rfl ?_
  refine jw_W_call (as := [.inr (.inr 103)]) (rest := []) rfl rfl rfl rfl (Nat.le_of_ble_eq_true rfl) (.inr rfl) (jk_hereR ht) (by omega) ?_ rfl
  rintro r1 σz ⟨rfl, hs⟩
  rw [hs]
  rw [em, h8]
  show jw_W (js_S n) _ md_197 2 [some (.inr (.inr 103)), none] [.inl (jk_h b m i)] σ _
  refine jw_W_n 1 (i' := 3) (ls' := [some (.inr (.inr 103)), none]) (st' := [.inl 91, .inl (jk_h b m i)]) rfl ?_
  refine jw_W_ic rfl (by unfold jw_rg; omega) (by unfold jw_rg; omega) (fun hc1 => ?_) (fun hc1 => ?_)
  · have hc1 : (jk_h b m i) ≠ 91 := hc1
    refine jw_W_n 1 (i' := 11) (ls' := [some (.inr (.inr 103)), none]) (st' := [.inr (.inr 103)]) rfl ?_
    refine jw_W_call (as := [.inr (.inr 103)]) (rest := []) rfl rfl rfl rfl (Nat.le_of_ble_eq_true rfl) (.inr rfl) (jk_isDigitR ht) (by omega) ?_ rfl
    rintro r1 σz (⟨rfl, hs, hd⟩ | ⟨rfl, hs, hd⟩)
    · rw [hs]
      rw [em, h8] at hd
      unfold jk_dg at hd
      show jw_W (js_S n) _ md_197 12 [some (.inr (.inr 103)), none] [.inl 1] σ _
      refine jw_W_if rfl (by unfold jw_rg; omega) (fun hc2 => ?_) (fun hc2 => ?_)
      · exact absurd hc2 (show ¬ ((1 : Int) = 0) by omega)
      · clear hc2
        refine jw_W_n 1 (i' := 14) (ls' := [some (.inr (.inr 103)), none]) (st' := [.inr (.inr 103)]) rfl ?_
        refine jw_W_call (as := [.inr (.inr 103)]) (rest := []) rfl rfl rfl rfl (Nat.le_of_ble_eq_true rfl) (.inr rfl) (jo_readsNumber2 hR0) (by omega) ?_ rfl
        rintro r1 σ2 (⟨rfl, hf8, hd2, hv⟩ | ⟨rfl, hf8, hd2, hv, hp⟩)
        · rename jw_H => σn
          show jw_W (js_S n) _ md_197 15 [some (.inr (.inr 103)), none] [.inl 0] σn _
          refine jw_W_if rfl (by unfold jw_rg; omega) (fun hc3 => ?_) (fun hc3 => ?_)
          · exact absurd hc3 (show ¬ ((0 : Int) ≠ 0) by omega)
          · clear hc3
            refine jw_W_n 1 (i' := 17) (ls' := [some (.inr (.inr 103)), none]) (st' := [.inl 0]) rfl ?_
            refine jw_W_ir rfl ?_
            exact .inl ⟨rfl, by
              have g3 := g3 (by omega)
              rw [jl_atom_2 hd hd2] at g3
              exact g3 (by have := jl_num_in (b := b) (m := m) 5 (i := i) (a := 0) (by omega); show -1000 * 2 - (jl_num b m 5 i 0).2 ≠ 0; omega) σn (jo_f_tr hf (jo_f_f8 hf8)) hv⟩
        · rename jw_H => σ2
          have e2 := hf8.2 13 (by omega) (by omega) (by omega)
          have hnr := jl_num_rg (b := b) (m := m) 5 (i := i) (a := 0) (by omega)
          have hnr2 : (jl_num b m 5 i 0).1 + 1 ≤ 100000 := hnr.2
          show jw_W (js_S n) _ md_197 15 [some (.inr (.inr 103)), none] [.inl 1] σ2 _
          refine jw_W_if rfl (by unfold jw_rg; omega) (fun hc4 => ?_) (fun hc4 => ?_)
          · clear hc4
            refine jw_W_n 3 (i' := 21) (ls' := [some (.inr (.inr 103)), none]) (st' := [.inr (.inr 103), .inl 0, .inr (.inr 103)]) rfl ?_
            refine jw_W_gf rfl rfl rfl ?_
            show jw_W (js_S n) _ md_197 22 [some (.inr (.inr 103)), none] [.inl (σ2 103 11), .inl 0, .inr (.inr 103)] σ2 _
            refine jw_W_call (as := [.inr (.inr 103), .inl 0, .inl (σ2 103 11)]) (rest := []) rfl rfl rfl rfl (Nat.le_of_ble_eq_true rfl) (.inr rfl) (jo_notes (by omega) (by omega) (by omega)) (by omega) ?_ rfl
            rintro r1 σ3 ⟨rfl, hs⟩
            rename jw_H => σ3
            show jw_W (js_S n) _ md_197 23 [some (.inr (.inr 103)), none] [] σ3 _
            refine jw_W_n 1 (i' := 24) (ls' := [some (.inr (.inr 103)), none]) (st' := [.inl 1]) rfl ?_
            refine jw_W_ir rfl ?_
            have g4 := g4 (by omega)
            rw [jl_atom_3 hd hd2] at g4
            have hfn : jo_f σ σ3 := by rw [hs]; exact jo_f_up (jo_f_up (jo_f_f8 hf8) (by omega)) (by omega)
            have hin := jl_num_in (b := b) (m := m) 4 (i := i + 1) (a := 10 * 0 + jk_h b m i - 48) (by omega)
            rw [← show jl_num b m 5 i 0 = jl_num b m 4 (i + 1) (10 * 0 + jk_h b m i - 48) from if_pos hd] at hin
            exact .inr ⟨rfl, fun x2 => g4 rfl σ3 x2 (jo_rp_note (i' := (jl_num b m 5 i 0).2) hR0 hfn (by rw [hs]; exact hp) (by omega) (by rw [hs]; exact hf8.2 12 (by omega) (by omega) (by omega)) (by rw [hs, jw_up_eq, e2]) (by rw [hs]; exact hf8.2 14 (by omega) (by omega) (by omega)) (by rw [hs, jw_up_out _ _ _ (by omega), e2, jw_up_eq, hv]; rfl) (fun j hj => by rw [hs, jw_up_out _ _ _ (by omega), jw_up_ne _ (by omega), hf8.1 108 (by omega)]) (by rw [hs]; exact hf8.1 109 (by omega)) (by show 0 ≤ (0 : Int) ∧ (0 : Int) ≤ 12; omega) (by show -1 ≤ (jl_num b m 5 i 0).1 ∧ (jl_num b m 5 i 0).1 ≤ 99999; omega)) (jo_f_tr hf hfn)⟩
          · exact absurd hc4 (show ¬ ¬ ((1 : Int) ≠ 0) by omega)
    · rw [hs]
      rw [em, h8] at hd
      unfold jk_dg at hd
      show jw_W (js_S n) _ md_197 12 [some (.inr (.inr 103)), none] [.inl 0] σ _
      refine jw_W_if rfl (by unfold jw_rg; omega) (fun hc5 => ?_) (fun hc5 => ?_)
      · clear hc5
        refine jw_W_n 1 (i' := 26) (ls' := [some (.inr (.inr 103)), none]) (st' := [.inr (.inr 103)]) rfl ?_
        refine jw_W_call (as := [.inr (.inr 103)]) (rest := []) rfl rfl rfl rfl (Nat.le_of_ble_eq_true rfl) (.inr rfl) (jk_hereR ht) (by omega) ?_ rfl
        rintro r1 σz ⟨rfl, hs⟩
        rw [hs]
        rw [em, h8]
        show jw_W (js_S n) _ md_197 27 [some (.inr (.inr 103)), none] [.inl (jk_h b m i)] σ _
        refine jw_W_call (as := [.inl (jk_h b m i)]) (rest := []) rfl rfl rfl rfl (Nat.le_of_ble_eq_true rfl) (.inl rfl) (jl_factOf (by omega)) (by omega) ?_ rfl
        rintro r1 σz ⟨rfl, hs⟩
        rw [hs]
        show jw_W (js_S n) _ md_197 28 [some (.inr (.inr 103)), none] [.inl (jl_fact (jk_h b m i))] σ _
        refine jw_W_n 3 (i' := 31) (ls' := [some (.inr (.inr 103)), some (.inl (jl_fact (jk_h b m i)))]) (st' := [.inl ((-1)), .inl (jl_fact (jk_h b m i))]) rfl ?_
        refine jw_W_ic rfl (by unfold jw_rg; omega) (by unfold jw_rg; omega) (fun hc6 => ?_) (fun hc6 => ?_)
        · have hc6 : (jl_fact (jk_h b m i)) ≠ ((-1)) := hc6
          refine jw_W_n 3 (i' := 41) (ls' := [some (.inr (.inr 103)), some (.inl (jl_fact (jk_h b m i)))]) (st' := [.inl (jl_fact (jk_h b m i)), .inl 1, .inr (.inr 103)]) rfl ?_
          refine jw_W_call (as := [.inr (.inr 103), .inl 1, .inl (jl_fact (jk_h b m i))]) (rest := []) rfl rfl rfl rfl (Nat.le_of_ble_eq_true rfl) (.inr rfl) (jo_notes (by omega) (by omega) (by omega)) (by omega) ?_ rfl
          rintro r1 σ3 ⟨rfl, hs⟩
          rename jw_H => σ3
          show jw_W (js_S n) _ md_197 42 [some (.inr (.inr 103)), some (.inl (jl_fact (jk_h b m i)))] [] σ3 _
          refine jw_W_n 2 (i' := 44) (ls' := [some (.inr (.inr 103)), some (.inl (jl_fact (jk_h b m i)))]) (st' := [.inr (.inr 103), .inr (.inr 103)]) rfl ?_
          refine jw_W_gf rfl rfl rfl ?_
          show jw_W (js_S n) _ md_197 45 [some (.inr (.inr 103)), some (.inl (jl_fact (jk_h b m i)))] [.inl (σ3 103 8), .inr (.inr 103)] σ3 _
          refine jw_W_n 2 (i' := 47) (ls' := [some (.inr (.inr 103)), some (.inl (jl_fact (jk_h b m i)))]) (st' := [.inl (σ3 103 8 + 1), .inr (.inr 103)]) rfl ?_
          refine jw_W_pf (a := σ3 103 8 + 1) rfl (by omega) rfl rfl rfl rfl rfl ?_
          refine jw_W_n 1 (i' := 49) (ls' := [some (.inr (.inr 103)), some (.inl (jl_fact (jk_h b m i)))]) (st' := [.inl 1]) rfl ?_
          refine jw_W_ir rfl ?_
          have g4 := g4 (by omega)
          rw [jl_atom_4 hd (by omega)] at g4
          obtain ⟨σ4, hs4⟩ : ∃ s : jw_H, s = jw_up σ3 103 8 (σ3 103 8 + 1) := ⟨_, rfl⟩
          show jo_pf n B Q (some (Sum.inl 1)) (jw_up σ3 103 8 (σ3 103 8 + 1))
          rw [← hs4]
          have hfn : jo_f σ σ4 := by rw [hs4, hs]; exact jo_f_up (jo_f_up (jo_f_up (jo_f_rf σ) (by omega)) (by omega)) (by omega)
          exact .inr ⟨rfl, fun x2 => g4 rfl σ4 x2 (jo_rp_note (i' := i + 1) hR0 hfn (by rw [hs4, hs, jw_up_eq]; show σ 103 8 + 1 = _; rw [h8]) (by omega) (by rw [hs4, hs]; rfl) (by rw [hs4, hs]; rfl) (by rw [hs4, hs]; rfl) (by rw [hs4, hs, jw_up_out _ _ _ (by omega), jw_up_out _ _ _ (by omega), jw_up_eq]; rfl) (fun j hj => by rw [hs4, hs, jw_up_out _ _ _ (by omega), jw_up_out _ _ _ (by omega), jw_up_ne _ (by omega)]) (by rw [hs4, hs]; rfl) (by show 0 ≤ (1 : Int) ∧ (1 : Int) ≤ 12; omega) (by show -1 ≤ jl_fact (jk_h b m i) ∧ jl_fact (jk_h b m i) ≤ 99999; omega)) (jo_f_tr hf hfn)⟩
        · have hc6 : (jl_fact (jk_h b m i)) = ((-1)) := Classical.not_not.mp hc6
          refine jw_W_n 3 (i' := 35) (ls' := [some (.inr (.inr 103)), some (.inl (jl_fact (jk_h b m i)))]) (st' := [.inr (.inr 103), .inl 1, .inr (.inr 103)]) rfl ?_
          refine jw_W_gf rfl rfl rfl ?_
          show jw_W (js_S n) _ md_197 36 [some (.inr (.inr 103)), some (.inl (jl_fact (jk_h b m i)))] [.inl (σ 103 8), .inl 1, .inr (.inr 103)] σ _
          refine jw_W_call (as := [.inr (.inr 103), .inl 1, .inl (σ 103 8)]) (rest := []) rfl rfl rfl rfl (Nat.le_of_ble_eq_true rfl) (.inr rfl) (jk_wrongAt (by omega) (by omega)) (by omega) ?_ rfl
          rintro r1 σz ⟨rfl, hs⟩
          rename jw_H => σw
          show jw_W (js_S n) _ md_197 37 [some (.inr (.inr 103)), some (.inl (jl_fact (jk_h b m i)))] [.inl 0] σw _
          refine jw_W_ir rfl ?_
          exact .inl ⟨rfl, by
            have g3 := g3 (by omega)
            rw [jl_atom_1 hd (by omega)] at g3
            exact g3 (by show -1000 * 1 - i ≠ 0; omega) σw (by rw [hs]; exact jo_f_up hf (by omega)) (by rw [hs, jw_up_eq, h8])⟩
      · exact absurd hc5 (show ¬ ¬ ((0 : Int) = 0) by omega)
  · have hc1 : (jk_h b m i) = 91 := Classical.not_not.mp hc1
    refine jw_W_n 2 (i' := 6) (ls' := [some (.inr (.inr 103)), none]) (st' := [.inl 14, .inr (.inr 103)]) rfl ?_
    refine jw_W_call (as := [.inr (.inr 103), .inl 14]) (rest := []) rfl rfl rfl rfl (Nat.le_of_ble_eq_true rfl) (.inr rfl) (jo_opens hR0 (by omega) (by omega)) (by omega) ?_ rfl
    rintro r1 σ1 (⟨rfl, ho6, hs⟩ | ⟨rfl, ho6, hf1, hR1⟩)
    · rename jw_H => σx
      show jw_W (js_S n) _ md_197 7 [some (.inr (.inr 103)), none] [.inl 0] σx _
      refine jw_W_if rfl (by unfold jw_rg; omega) (fun hc7 => ?_) (fun hc7 => ?_)
      · exact absurd hc7 (show ¬ ((0 : Int) ≠ 0) by omega)
      · clear hc7
        refine jw_W_n 1 (i' := 9) (ls' := [some (.inr (.inr 103)), none]) (st' := [.inl 0]) rfl ?_
        refine jw_W_ir rfl ?_
        exact .inl ⟨rfl, g2 (by omega) ho6 σx (by rw [hs]; exact jo_f_up hf (by omega)) (by rw [hs, jw_up_eq])⟩
    · rename jw_H => σ1
      show jw_W (js_S n) _ md_197 7 [some (.inr (.inr 103)), none] [.inl 1] σ1 _
      refine jw_W_if rfl (by unfold jw_rg; omega) (fun hc8 => ?_) (fun hc8 => ?_)
      · clear hc8
        exact g1 (by omega) ho6 σ1 hR1 (jo_f_tr hf hf1)
      · exact absurd hc8 (show ¬ ¬ ((1 : Int) ≠ 0) by omega)
theorem jo_A_step {n : Nat} {b : Int → Int} {d m : Int} {B : jo_C} (hB : jo_b B) {σ0 : jw_H} {Q : Option jw_V → jw_H → Prop} {i : Int} {U c : jo_C} {o : Int} (g45f : jo_ss (jk_h b m i) ≠ -1 → 4 ≤ jo_ss (jk_h b m i) → jo_PF n b d m B σ0 Q (i + 1) ((jo_ss (jk_h b m i), 0) :: (jo_cl false U c).1) (jo_cl false U c).2 o) (g45t : jo_ss (jk_h b m i) ≠ -1 → jo_ss (jk_h b m i) < 4 → jo_PF n b d m B σ0 Q (i + 1) ((jo_ss (jk_h b m i), 0) :: (jo_cl true U c).1) (jo_cl true U c).2 o) (g6 : jo_ss (jk_h b m i) = -1 → jk_h b m i = 93 → jo_has U → ∃ V c', jo_cl true U c = ((14, 0) :: V, c') ∧ jo_PA n b d m B σ0 Q (i + 1) V c' (o - 1)) (g7 : jo_ss (jk_h b m i) = -1 → jk_h b m i ≠ 93 → jo_has U → jo_Er σ0 Q (-1000 * 1 - i)) (g8 : jo_ss (jk_h b m i) = -1 → ¬ jo_has U → ∃ c', jo_cl true U c = ([], c') ∧ jo_Dn b d m B σ0 Q i c' o) : jo_PA n b d m B σ0 Q i U c o := by
  intro σ x2 hR hf
  have hR0 := hR
  obtain ⟨ht, em, h240, h8, hi, h12, ho, h13, h14, hb, hc, hw⟩ := hR
  have hh := jk_h_rg (b := b) (n := m) (i := i) (by omega) (fun j j0 j1 => (ht.2.2 j j0 (by omega)).2.2)
  have hlt := jk_h_lt (b := b) (m := m) (i := i)
  have hsr : (jo_ss (jk_h b m i) = -1 ∨ (2 ≤ jo_ss (jk_h b m i) ∧ jo_ss (jk_h b m i) ≤ 6 ∧ i < m)) := by
    rcases jo_ss_rg (jk_h b m i) with ⟨-, -, h1, h2, h3, h4⟩ | ⟨-, -, h1, h2, h3, h4⟩ | ⟨-, -, h1⟩
    · exact .inr ⟨by omega, by omega, hlt h4⟩
    · exact .inr ⟨by omega, by omega, hlt h4⟩
    · exact .inl h1
  have hl2 : ((U ++ B).length : Int) = (U.length : Int) + (B.length : Int) := by
    rw [List.length_append]
    rfl
  refine jw_W_n 1 (i' := 9) (ls' := [some (.inr (.inr 103)), some (.inl ((B.length : Int))), x2]) (st' := [.inr (.inr 103)]) rfl ?_
  refine jw_W_call (as := [.inr (.inr 103)]) (rest := []) rfl rfl rfl rfl (Nat.le_of_ble_eq_true rfl) (.inr rfl) (jk_hereR ht) (by omega) ?_ rfl
  rintro r1 σz ⟨rfl, hs⟩
  rw [hs]
  rw [em, h8]
  show jw_W (js_S n) _ md_199 10 [some (.inr (.inr 103)), some (.inl ((B.length : Int))), x2] [.inl (jk_h b m i)] σ _
  refine jw_W_call (as := [.inl (jk_h b m i)]) (rest := []) rfl rfl rfl rfl (Nat.le_of_ble_eq_true rfl) (.inl rfl) (jo_sumSign (by omega)) (by omega) ?_ rfl
  rintro r1 σz ⟨rfl, hs⟩
  rw [hs]
  show jw_W (js_S n) _ md_199 11 [some (.inr (.inr 103)), some (.inl ((B.length : Int))), x2] [.inl (jo_ss (jk_h b m i))] σ _
  refine jw_W_n 3 (i' := 14) (ls' := [some (.inr (.inr 103)), some (.inl ((B.length : Int))), some (.inl (jo_ss (jk_h b m i)))]) (st' := [.inl ((-1)), .inl (jo_ss (jk_h b m i))]) rfl ?_
  refine jw_W_ic rfl (by unfold jw_rg; omega) (by unfold jw_rg; omega) (fun hc1 => ?_) (fun hc1 => ?_)
  · have hc1 : (jo_ss (jk_h b m i)) = ((-1)) := hc1
    refine jw_W_n 1 (i' := 49) (ls' := [some (.inr (.inr 103)), some (.inl ((B.length : Int))), some (.inl (jo_ss (jk_h b m i)))]) (st' := [.inr (.inr 103)]) rfl ?_
    refine jw_W_call (as := [.inr (.inr 103)]) (rest := []) rfl rfl rfl rfl (Nat.le_of_ble_eq_true rfl) (.inr rfl) (jk_hereR ht) (by omega) ?_ rfl
    rintro r1 σz ⟨rfl, hs⟩
    rw [hs]
    rw [em, h8]
    show jw_W (js_S n) _ md_199 50 [some (.inr (.inr 103)), some (.inl ((B.length : Int))), some (.inl (jo_ss (jk_h b m i)))] [.inl (jk_h b m i)] σ _
    refine jw_W_n 1 (i' := 51) (ls' := [some (.inr (.inr 103)), some (.inl ((B.length : Int))), some (.inl (jo_ss (jk_h b m i)))]) (st' := [.inl 93, .inl (jk_h b m i)]) rfl ?_
    refine jw_W_ic rfl (by unfold jw_rg; omega) (by unfold jw_rg; omega) (fun hc2 => ?_) (fun hc2 => ?_)
    · have hc2 : (jk_h b m i) ≠ 93 := hc2
      refine jw_W_n 2 (i' := 80) (ls' := [some (.inr (.inr 103)), some (.inl ((B.length : Int))), some (.inl (jo_ss (jk_h b m i)))]) (st' := [.inl ((B.length : Int)), .inr (.inr 103)]) rfl ?_
      refine jw_W_call (as := [.inr (.inr 103), .inl ((B.length : Int))]) (rest := []) rfl rfl rfl rfl (Nat.le_of_ble_eq_true rfl) (.inr rfl) (jo_hasOpen hR0) (by omega) ?_ rfl
      rintro r1 σz (⟨rfl, hs, hop⟩ | ⟨rfl, hs, hop⟩)
      · rw [hs]
        show jw_W (js_S n) _ md_199 81 [some (.inr (.inr 103)), some (.inl ((B.length : Int))), some (.inl (jo_ss (jk_h b m i)))] [.inl 1] σ _
        refine jw_W_if rfl (by unfold jw_rg; omega) (fun hc3 => ?_) (fun hc3 => ?_)
        · exact absurd hc3 (show ¬ ((1 : Int) = 0) by omega)
        · clear hc3
          refine jw_W_n 3 (i' := 85) (ls' := [some (.inr (.inr 103)), some (.inl ((B.length : Int))), some (.inl (jo_ss (jk_h b m i)))]) (st' := [.inr (.inr 103), .inl 1, .inr (.inr 103)]) rfl ?_
          refine jw_W_gf rfl rfl rfl ?_
          show jw_W (js_S n) _ md_199 86 [some (.inr (.inr 103)), some (.inl ((B.length : Int))), some (.inl (jo_ss (jk_h b m i)))] [.inl (σ 103 8), .inl 1, .inr (.inr 103)] σ _
          refine jw_W_call (as := [.inr (.inr 103), .inl 1, .inl (σ 103 8)]) (rest := []) rfl rfl rfl rfl (Nat.le_of_ble_eq_true rfl) (.inr rfl) (jk_wrongAt (by omega) (by omega)) (by omega) ?_ rfl
          rintro r1 σz ⟨rfl, hs⟩
          rename jw_H => σw
          show jw_W (js_S n) _ md_199 87 [some (.inr (.inr 103)), some (.inl ((B.length : Int))), some (.inl (jo_ss (jk_h b m i)))] [.inl 0] σw _
          refine jw_W_ir rfl ?_
          first | exact g7 (by omega) (by omega) hop σw (by rw [hs]; exact jo_f_up hf (by omega)) (by rw [hs, jw_up_eq, h8]) | exact absurd ‹jo_has U› ‹¬ jo_has U›
      · rw [hs]
        show jw_W (js_S n) _ md_199 81 [some (.inr (.inr 103)), some (.inl ((B.length : Int))), some (.inl (jo_ss (jk_h b m i)))] [.inl 0] σ _
        refine jw_W_if rfl (by unfold jw_rg; omega) (fun hc4 => ?_) (fun hc4 => ?_)
        · clear hc4
          refine jw_W_n 2 (i' := 90) (ls' := [some (.inr (.inr 103)), some (.inl ((B.length : Int))), some (.inl (jo_ss (jk_h b m i)))]) (st' := [.inl 1, .inr (.inr 103)]) rfl ?_
          refine jw_W_call (as := [.inr (.inr 103), .inl 1]) (rest := []) rfl rfl rfl rfl (Nat.le_of_ble_eq_true rfl) (.inr rfl) (jo_closesSums hR0 (a := 1) (all := true) (by decide)) (by omega) ?_ rfl
          rintro r1 σ1 ⟨rfl, hf1, hR1⟩
          rename jw_H => σ1
          rw [jo_cl_app hB] at hR1
          have hR1 : jo_rp b d m i o ((jo_cl true U c).1 ++ B) (jo_cl true U c).2 σ1 := hR1
          have hR1c := hR1
          obtain ⟨-, em1, -, k8, -, k12, ko, k13, k14, kb, -, -⟩ := hR1c
          show jw_W (js_S n) _ md_199 91 [some (.inr (.inr 103)), some (.inl ((B.length : Int))), some (.inl (jo_ss (jk_h b m i)))] [] σ1 _
          refine jw_W_n 1 (i' := 92) (ls' := [some (.inr (.inr 103)), some (.inl ((B.length : Int))), some (.inl (jo_ss (jk_h b m i)))]) (st' := [.inl 1]) rfl ?_
          refine jw_W_ir rfl ?_
          obtain ⟨c', hcl, hD⟩ := g8 (by omega) hop
          rw [hcl] at hR1
          exact hD σ1 (jo_f_tr hf hf1) hR1
        · exact absurd hc4 (show ¬ ¬ ((0 : Int) = 0) by omega)
    · have hc2 : (jk_h b m i) = 93 := Classical.not_not.mp hc2
      refine jw_W_n 2 (i' := 54) (ls' := [some (.inr (.inr 103)), some (.inl ((B.length : Int))), some (.inl (jo_ss (jk_h b m i)))]) (st' := [.inl ((B.length : Int)), .inr (.inr 103)]) rfl ?_
      refine jw_W_call (as := [.inr (.inr 103), .inl ((B.length : Int))]) (rest := []) rfl rfl rfl rfl (Nat.le_of_ble_eq_true rfl) (.inr rfl) (jo_hasOpen hR0) (by omega) ?_ rfl
      rintro r1 σz (⟨rfl, hs, hop⟩ | ⟨rfl, hs, hop⟩)
      · rw [hs]
        show jw_W (js_S n) _ md_199 55 [some (.inr (.inr 103)), some (.inl ((B.length : Int))), some (.inl (jo_ss (jk_h b m i)))] [.inl 1] σ _
        refine jw_W_if rfl (by unfold jw_rg; omega) (fun hc5 => ?_) (fun hc5 => ?_)
        · exact absurd hc5 (show ¬ ((1 : Int) = 0) by omega)
        · clear hc5
          refine jw_W_n 2 (i' := 58) (ls' := [some (.inr (.inr 103)), some (.inl ((B.length : Int))), some (.inl (jo_ss (jk_h b m i)))]) (st' := [.inl 1, .inr (.inr 103)]) rfl ?_
          refine jw_W_call (as := [.inr (.inr 103), .inl 1]) (rest := []) rfl rfl rfl rfl (Nat.le_of_ble_eq_true rfl) (.inr rfl) (jo_closesSums hR0 (a := 1) (all := true) (by decide)) (by omega) ?_ rfl
          rintro r1 σ1 ⟨rfl, hf1, hR1⟩
          rename jw_H => σ1
          rw [jo_cl_app hB] at hR1
          have hR1 : jo_rp b d m i o ((jo_cl true U c).1 ++ B) (jo_cl true U c).2 σ1 := hR1
          have hR1c := hR1
          obtain ⟨-, em1, -, k8, -, k12, ko, k13, k14, kb, -, -⟩ := hR1c
          show jw_W (js_S n) _ md_199 59 [some (.inr (.inr 103)), some (.inl ((B.length : Int))), some (.inl (jo_ss (jk_h b m i)))] [] σ1 _
          refine jw_W_n 2 (i' := 61) (ls' := [some (.inr (.inr 103)), some (.inl ((B.length : Int))), some (.inl (jo_ss (jk_h b m i)))]) (st' := [.inr (.inr 103), .inr (.inr 103)]) rfl ?_
          refine jw_W_gf rfl rfl rfl ?_
          show jw_W (js_S n) _ md_199 62 [some (.inr (.inr 103)), some (.inl ((B.length : Int))), some (.inl (jo_ss (jk_h b m i)))] [.inl (σ1 103 14), .inr (.inr 103)] σ1 _
          refine jw_W_n 2 (i' := 64) (ls' := [some (.inr (.inr 103)), some (.inl ((B.length : Int))), some (.inl (jo_ss (jk_h b m i)))]) (st' := [.inl (σ1 103 14 - 1), .inr (.inr 103)]) rfl ?_
          refine jw_W_pf (a := σ1 103 14 - 1) rfl (by omega) rfl rfl rfl rfl rfl ?_
          refine jw_W_n 2 (i' := 67) (ls' := [some (.inr (.inr 103)), some (.inl ((B.length : Int))), some (.inl (jo_ss (jk_h b m i)))]) (st' := [.inr (.inr 103), .inr (.inr 103)]) rfl ?_
          refine jw_W_gf rfl rfl rfl ?_
          show jw_W (js_S n) _ md_199 68 [some (.inr (.inr 103)), some (.inl ((B.length : Int))), some (.inl (jo_ss (jk_h b m i)))] [.inl (σ1 103 12), .inr (.inr 103)] ((jw_up σ1 103 14 (σ1 103 14 - 1))) _
          refine jw_W_n 2 (i' := 70) (ls' := [some (.inr (.inr 103)), some (.inl ((B.length : Int))), some (.inl (jo_ss (jk_h b m i)))]) (st' := [.inl (σ1 103 12 - 1), .inr (.inr 103)]) rfl ?_
          refine jw_W_pf (a := σ1 103 12 - 1) rfl (by omega) rfl rfl rfl rfl rfl ?_
          refine jw_W_n 2 (i' := 73) (ls' := [some (.inr (.inr 103)), some (.inl ((B.length : Int))), some (.inl (jo_ss (jk_h b m i)))]) (st' := [.inr (.inr 103), .inr (.inr 103)]) rfl ?_
          refine jw_W_gf rfl rfl rfl ?_
          show jw_W (js_S n) _ md_199 74 [some (.inr (.inr 103)), some (.inl ((B.length : Int))), some (.inl (jo_ss (jk_h b m i)))] [.inl (σ1 103 8), .inr (.inr 103)] ((jw_up (jw_up σ1 103 14 (σ1 103 14 - 1)) 103 12 (σ1 103 12 - 1))) _
          refine jw_W_n 2 (i' := 76) (ls' := [some (.inr (.inr 103)), some (.inl ((B.length : Int))), some (.inl (jo_ss (jk_h b m i)))]) (st' := [.inl (σ1 103 8 + 1), .inr (.inr 103)]) rfl ?_
          refine jw_W_pf (a := σ1 103 8 + 1) rfl (by omega) rfl rfl rfl rfl rfl ?_
          refine jw_W_n 2 (i' := 8) (ls' := [some (.inr (.inr 103)), some (.inl ((B.length : Int))), some (.inl (jo_ss (jk_h b m i)))]) (st' := []) rfl ?_
          obtain ⟨V, c', hcl, hP⟩ := g6 (by omega) (by omega) hop
          obtain ⟨σ2, hs2⟩ : ∃ s : jw_H, s = jw_up (jw_up (jw_up σ1 103 14 (σ1 103 14 - 1)) 103 12 (σ1 103 12 - 1)) 103 8 (σ1 103 8 + 1) := ⟨_, rfl⟩
          show jw_W (js_S n) _ _ _ _ _ (jw_up (jw_up (jw_up σ1 103 14 (σ1 103 14 - 1)) 103 12 (σ1 103 12 - 1)) 103 8 (σ1 103 8 + 1)) _
          rw [← hs2]
          rw [hcl] at hR1
          have hf2 : jo_f σ1 σ2 := by rw [hs2]; exact jo_f_up (jo_f_up (jo_f_up (jo_f_rf σ1) (by omega)) (by omega)) (by omega)
          exact hP σ2 _ (jo_rp_shut (q := (14, 0)) (W := V ++ B) hR1 (.inr rfl) hf2 (by rw [hs2, jw_up_eq, k8]) (by omega) (by rw [hs2]; rfl) (by rw [hs2]; rfl) (by rw [hs2]; rfl) (by rw [hs2]; rfl) (by rw [hs2]; rfl)) (jo_f_tr hf (jo_f_tr hf1 hf2))
      · rw [hs]
        show jw_W (js_S n) _ md_199 55 [some (.inr (.inr 103)), some (.inl ((B.length : Int))), some (.inl (jo_ss (jk_h b m i)))] [.inl 0] σ _
        refine jw_W_if rfl (by unfold jw_rg; omega) (fun hc6 => ?_) (fun hc6 => ?_)
        · clear hc6
          refine jw_W_n 2 (i' := 80) (ls' := [some (.inr (.inr 103)), some (.inl ((B.length : Int))), some (.inl (jo_ss (jk_h b m i)))]) (st' := [.inl ((B.length : Int)), .inr (.inr 103)]) rfl ?_
          refine jw_W_call (as := [.inr (.inr 103), .inl ((B.length : Int))]) (rest := []) rfl rfl rfl rfl (Nat.le_of_ble_eq_true rfl) (.inr rfl) (jo_hasOpen hR0) (by omega) ?_ rfl
          rintro r1 σz (⟨rfl, hs, hop⟩ | ⟨rfl, hs, hop⟩)
          · rw [hs]
            show jw_W (js_S n) _ md_199 81 [some (.inr (.inr 103)), some (.inl ((B.length : Int))), some (.inl (jo_ss (jk_h b m i)))] [.inl 1] σ _
            refine jw_W_if rfl (by unfold jw_rg; omega) (fun hc7 => ?_) (fun hc7 => ?_)
            · exact absurd hc7 (show ¬ ((1 : Int) = 0) by omega)
            · clear hc7
              refine jw_W_n 3 (i' := 85) (ls' := [some (.inr (.inr 103)), some (.inl ((B.length : Int))), some (.inl (jo_ss (jk_h b m i)))]) (st' := [.inr (.inr 103), .inl 1, .inr (.inr 103)]) rfl ?_
              refine jw_W_gf rfl rfl rfl ?_
              show jw_W (js_S n) _ md_199 86 [some (.inr (.inr 103)), some (.inl ((B.length : Int))), some (.inl (jo_ss (jk_h b m i)))] [.inl (σ 103 8), .inl 1, .inr (.inr 103)] σ _
              refine jw_W_call (as := [.inr (.inr 103), .inl 1, .inl (σ 103 8)]) (rest := []) rfl rfl rfl rfl (Nat.le_of_ble_eq_true rfl) (.inr rfl) (jk_wrongAt (by omega) (by omega)) (by omega) ?_ rfl
              rintro r1 σz ⟨rfl, hs⟩
              rename jw_H => σw
              show jw_W (js_S n) _ md_199 87 [some (.inr (.inr 103)), some (.inl ((B.length : Int))), some (.inl (jo_ss (jk_h b m i)))] [.inl 0] σw _
              refine jw_W_ir rfl ?_
              first | exact g7 (by omega) (by omega) hop σw (by rw [hs]; exact jo_f_up hf (by omega)) (by rw [hs, jw_up_eq, h8]) | exact absurd ‹jo_has U› ‹¬ jo_has U›
          · rw [hs]
            show jw_W (js_S n) _ md_199 81 [some (.inr (.inr 103)), some (.inl ((B.length : Int))), some (.inl (jo_ss (jk_h b m i)))] [.inl 0] σ _
            refine jw_W_if rfl (by unfold jw_rg; omega) (fun hc8 => ?_) (fun hc8 => ?_)
            · clear hc8
              refine jw_W_n 2 (i' := 90) (ls' := [some (.inr (.inr 103)), some (.inl ((B.length : Int))), some (.inl (jo_ss (jk_h b m i)))]) (st' := [.inl 1, .inr (.inr 103)]) rfl ?_
              refine jw_W_call (as := [.inr (.inr 103), .inl 1]) (rest := []) rfl rfl rfl rfl (Nat.le_of_ble_eq_true rfl) (.inr rfl) (jo_closesSums hR0 (a := 1) (all := true) (by decide)) (by omega) ?_ rfl
              rintro r1 σ1 ⟨rfl, hf1, hR1⟩
              rename jw_H => σ1
              rw [jo_cl_app hB] at hR1
              have hR1 : jo_rp b d m i o ((jo_cl true U c).1 ++ B) (jo_cl true U c).2 σ1 := hR1
              have hR1c := hR1
              obtain ⟨-, em1, -, k8, -, k12, ko, k13, k14, kb, -, -⟩ := hR1c
              show jw_W (js_S n) _ md_199 91 [some (.inr (.inr 103)), some (.inl ((B.length : Int))), some (.inl (jo_ss (jk_h b m i)))] [] σ1 _
              refine jw_W_n 1 (i' := 92) (ls' := [some (.inr (.inr 103)), some (.inl ((B.length : Int))), some (.inl (jo_ss (jk_h b m i)))]) (st' := [.inl 1]) rfl ?_
              refine jw_W_ir rfl ?_
              obtain ⟨c', hcl, hD⟩ := g8 (by omega) hop
              rw [hcl] at hR1
              exact hD σ1 (jo_f_tr hf hf1) hR1
            · exact absurd hc8 (show ¬ ¬ ((0 : Int) = 0) by omega)
        · exact absurd hc6 (show ¬ ¬ ((0 : Int) = 0) by omega)
  · have hc1 : ¬ ((jo_ss (jk_h b m i)) = ((-1))) := hc1
    refine jw_W_n 3 (i' := 18) (ls' := [some (.inr (.inr 103)), some (.inl ((B.length : Int))), some (.inl (jo_ss (jk_h b m i)))]) (st' := [.inl 4, .inl (jo_ss (jk_h b m i)), .inr (.inr 103)]) rfl ?_
    refine jw_W_ic rfl (by unfold jw_rg; omega) (by unfold jw_rg; omega) (fun hc9 => ?_) (fun hc9 => ?_)
    · have hc9 : (jo_ss (jk_h b m i)) ≥ 4 := hc9
      refine jw_W_n 1 (i' := 22) (ls' := [some (.inr (.inr 103)), some (.inl ((B.length : Int))), some (.inl (jo_ss (jk_h b m i)))]) (st' := [.inl 0, .inr (.inr 103)]) rfl ?_
      refine jw_W_call (as := [.inr (.inr 103), .inl 0]) (rest := []) rfl rfl rfl rfl (Nat.le_of_ble_eq_true rfl) (.inr rfl) (jo_closesSums hR0 (a := 0) (all := false) (by decide)) (by omega) ?_ rfl
      rintro r1 σ1 ⟨rfl, hf1, hR1⟩
      rename jw_H => σ1
      rw [jo_cl_app hB] at hR1
      have hR1 : jo_rp b d m i o ((jo_cl false U c).1 ++ B) (jo_cl false U c).2 σ1 := hR1
      have hR1c := hR1
      obtain ⟨-, em1, -, k8, -, k12, ko, k13, k14, kb, -, -⟩ := hR1c
      show jw_W (js_S n) _ md_199 23 [some (.inr (.inr 103)), some (.inl ((B.length : Int))), some (.inl (jo_ss (jk_h b m i)))] [] σ1 _
      refine jw_W_n 1 (i' := 24) (ls' := [some (.inr (.inr 103)), some (.inl ((B.length : Int))), some (.inl (jo_ss (jk_h b m i)))]) (st' := [.inr (.inr 103)]) rfl ?_
      refine jw_W_gf rfl rfl rfl ?_
      show jw_W (js_S n) _ md_199 25 [some (.inr (.inr 103)), some (.inl ((B.length : Int))), some (.inl (jo_ss (jk_h b m i)))] [.inr (.inr 109)] σ1 _
      refine jw_W_n 1 (i' := 26) (ls' := [some (.inr (.inr 103)), some (.inl ((B.length : Int))), some (.inl (jo_ss (jk_h b m i)))]) (st' := [.inr (.inr 103), .inr (.inr 109)]) rfl ?_
      refine jw_W_gf rfl rfl rfl ?_
      show jw_W (js_S n) _ md_199 27 [some (.inr (.inr 103)), some (.inl ((B.length : Int))), some (.inl (jo_ss (jk_h b m i)))] [.inl (σ1 103 14), .inr (.inr 109)] σ1 _
      refine jw_W_ldc (z := 1048576) rfl rfl ?_
      refine jw_W_n 2 (i' := 30) (ls' := [some (.inr (.inr 103)), some (.inl ((B.length : Int))), some (.inl (jo_ss (jk_h b m i)))]) (st' := [.inl (1048576 * (jo_ss (jk_h b m i))), .inl (σ1 103 14), .inr (.inr 109)]) rfl ?_
      refine jw_W_is rfl (by omega) rfl (by omega) (by omega) (by omega) ?_
      refine jw_W_n 2 (i' := 33) (ls' := [some (.inr (.inr 103)), some (.inl ((B.length : Int))), some (.inl (jo_ss (jk_h b m i)))]) (st' := [.inr (.inr 103), .inr (.inr 103)]) rfl ?_
      refine jw_W_gf rfl rfl rfl ?_
      show jw_W (js_S n) _ md_199 34 [some (.inr (.inr 103)), some (.inl ((B.length : Int))), some (.inl (jo_ss (jk_h b m i)))] [.inl (σ1 103 14), .inr (.inr 103)] ((jw_up σ1 109 (σ1 103 14) (1048576 * (jo_ss (jk_h b m i))))) _
      refine jw_W_n 2 (i' := 36) (ls' := [some (.inr (.inr 103)), some (.inl ((B.length : Int))), some (.inl (jo_ss (jk_h b m i)))]) (st' := [.inl (σ1 103 14 + 1), .inr (.inr 103)]) rfl ?_
      refine jw_W_pf (a := σ1 103 14 + 1) rfl (by omega) rfl rfl rfl rfl rfl ?_
      refine jw_W_n 2 (i' := 39) (ls' := [some (.inr (.inr 103)), some (.inl ((B.length : Int))), some (.inl (jo_ss (jk_h b m i)))]) (st' := [.inr (.inr 103), .inr (.inr 103)]) rfl ?_
      refine jw_W_gf rfl rfl rfl ?_
      show jw_W (js_S n) _ md_199 40 [some (.inr (.inr 103)), some (.inl ((B.length : Int))), some (.inl (jo_ss (jk_h b m i)))] [.inl (σ1 103 8), .inr (.inr 103)] ((jw_up (jw_up σ1 109 (σ1 103 14) (1048576 * (jo_ss (jk_h b m i)))) 103 14 (σ1 103 14 + 1))) _
      refine jw_W_n 2 (i' := 42) (ls' := [some (.inr (.inr 103)), some (.inl ((B.length : Int))), some (.inl (jo_ss (jk_h b m i)))]) (st' := [.inl (σ1 103 8 + 1), .inr (.inr 103)]) rfl ?_
      refine jw_W_pf (a := σ1 103 8 + 1) rfl (by omega) rfl rfl rfl rfl rfl ?_
      obtain ⟨σ2, hs2⟩ : ∃ s : jw_H, s = jw_up (jw_up (jw_up σ1 109 (σ1 103 14) (1048576 * (jo_ss (jk_h b m i)))) 103 14 (σ1 103 14 + 1)) 103 8 (σ1 103 8 + 1) := ⟨_, rfl⟩
      show jw_W (js_S n) _ _ _ _ _ (jw_up (jw_up (jw_up σ1 109 (σ1 103 14) (1048576 * (jo_ss (jk_h b m i)))) 103 14 (σ1 103 14 + 1)) 103 8 (σ1 103 8 + 1)) _
      rw [← hs2]
      have hf2 : jo_f σ1 σ2 := by rw [hs2]; exact jo_f_up (jo_f_up (jo_f_up (jo_f_rf σ1) (by omega)) (by omega)) (by omega)
      have hR2 := jo_rp_push (υ := σ2) (s := jo_ss (jk_h b m i)) hR1 (by omega) hf2 (by rw [hs2, jw_up_eq, k8]) (by omega) (by rw [hs2]; rfl) (by rw [hs2]; rfl) (by rw [hs2]; rfl) (by rw [hs2]; rfl) (by rw [hs2, jw_up_out _ _ _ (by omega), jw_up_out _ _ _ (by omega), jw_up_eq]) (fun j hj => by rw [hs2, jw_up_out _ _ _ (by omega), jw_up_out _ _ _ (by omega), jw_up_ne _ (by omega)])
      have hff := jo_f_tr hf (jo_f_tr hf1 hf2)
      refine jw_W_n 1 (i' := 44) (ls' := [some (.inr (.inr 103)), some (.inl ((B.length : Int))), some (.inl (jo_ss (jk_h b m i)))]) (st' := [.inr (.inr 103)]) rfl ?_
      refine jw_W_call (as := [.inr (.inr 103)]) (rest := []) rfl rfl rfl rfl (Nat.le_of_ble_eq_true rfl) (.inr rfl) (jw_T_of (D := 3) (M := mm_197) rfl (Nat.le_of_ble_eq_true rfl) (ls0 := [some (.inr (.inr 103)), none]) rfl (g45f (by omega) (by omega) σ2 hR2 hff) (by rintro _ _ (⟨rfl, -⟩ | ⟨rfl, -⟩) <;> rfl)) (by omega) ?_ rfl
      rintro r1 σz (⟨rfl, hq⟩ | ⟨rfl, hq⟩)
      · rename jw_H => σr
        show jw_W (js_S n) _ md_199 45 [some (.inr (.inr 103)), some (.inl ((B.length : Int))), some (.inl (jo_ss (jk_h b m i)))] [.inl 0] σr _
        refine jw_W_if rfl (by unfold jw_rg; omega) (fun hc10 => ?_) (fun hc10 => ?_)
        · exact absurd hc10 (show ¬ ((0 : Int) ≠ 0) by omega)
        · clear hc10
          refine jw_W_n 1 (i' := 47) (ls' := [some (.inr (.inr 103)), some (.inl ((B.length : Int))), some (.inl (jo_ss (jk_h b m i)))]) (st' := [.inl 0]) rfl ?_
          refine jw_W_ir rfl ?_
          exact hq
      · rename jw_H => σs
        show jw_W (js_S n) _ md_199 45 [some (.inr (.inr 103)), some (.inl ((B.length : Int))), some (.inl (jo_ss (jk_h b m i)))] [.inl 1] σs _
        refine jw_W_if rfl (by unfold jw_rg; omega) (fun hc11 => ?_) (fun hc11 => ?_)
        · clear hc11
          refine jw_W_n 1 (i' := 8) (ls' := [some (.inr (.inr 103)), some (.inl ((B.length : Int))), some (.inl (jo_ss (jk_h b m i)))]) (st' := []) rfl ?_
          exact hq _
        · exact absurd hc11 (show ¬ ¬ ((1 : Int) ≠ 0) by omega)
    · have hc9 : ¬ ((jo_ss (jk_h b m i)) ≥ 4) := hc9
      refine jw_W_n 2 (i' := 22) (ls' := [some (.inr (.inr 103)), some (.inl ((B.length : Int))), some (.inl (jo_ss (jk_h b m i)))]) (st' := [.inl 1, .inr (.inr 103)]) rfl ?_
      refine jw_W_call (as := [.inr (.inr 103), .inl 1]) (rest := []) rfl rfl rfl rfl (Nat.le_of_ble_eq_true rfl) (.inr rfl) (jo_closesSums hR0 (a := 1) (all := true) (by decide)) (by omega) ?_ rfl
      rintro r1 σ1 ⟨rfl, hf1, hR1⟩
      rename jw_H => σ1
      rw [jo_cl_app hB] at hR1
      have hR1 : jo_rp b d m i o ((jo_cl true U c).1 ++ B) (jo_cl true U c).2 σ1 := hR1
      have hR1c := hR1
      obtain ⟨-, em1, -, k8, -, k12, ko, k13, k14, kb, -, -⟩ := hR1c
      show jw_W (js_S n) _ md_199 23 [some (.inr (.inr 103)), some (.inl ((B.length : Int))), some (.inl (jo_ss (jk_h b m i)))] [] σ1 _
      refine jw_W_n 1 (i' := 24) (ls' := [some (.inr (.inr 103)), some (.inl ((B.length : Int))), some (.inl (jo_ss (jk_h b m i)))]) (st' := [.inr (.inr 103)]) rfl ?_
      refine jw_W_gf rfl rfl rfl ?_
      show jw_W (js_S n) _ md_199 25 [some (.inr (.inr 103)), some (.inl ((B.length : Int))), some (.inl (jo_ss (jk_h b m i)))] [.inr (.inr 109)] σ1 _
      refine jw_W_n 1 (i' := 26) (ls' := [some (.inr (.inr 103)), some (.inl ((B.length : Int))), some (.inl (jo_ss (jk_h b m i)))]) (st' := [.inr (.inr 103), .inr (.inr 109)]) rfl ?_
      refine jw_W_gf rfl rfl rfl ?_
      show jw_W (js_S n) _ md_199 27 [some (.inr (.inr 103)), some (.inl ((B.length : Int))), some (.inl (jo_ss (jk_h b m i)))] [.inl (σ1 103 14), .inr (.inr 109)] σ1 _
      refine jw_W_ldc (z := 1048576) rfl rfl ?_
      refine jw_W_n 2 (i' := 30) (ls' := [some (.inr (.inr 103)), some (.inl ((B.length : Int))), some (.inl (jo_ss (jk_h b m i)))]) (st' := [.inl (1048576 * (jo_ss (jk_h b m i))), .inl (σ1 103 14), .inr (.inr 109)]) rfl ?_
      refine jw_W_is rfl (by omega) rfl (by omega) (by omega) (by omega) ?_
      refine jw_W_n 2 (i' := 33) (ls' := [some (.inr (.inr 103)), some (.inl ((B.length : Int))), some (.inl (jo_ss (jk_h b m i)))]) (st' := [.inr (.inr 103), .inr (.inr 103)]) rfl ?_
      refine jw_W_gf rfl rfl rfl ?_
      show jw_W (js_S n) _ md_199 34 [some (.inr (.inr 103)), some (.inl ((B.length : Int))), some (.inl (jo_ss (jk_h b m i)))] [.inl (σ1 103 14), .inr (.inr 103)] ((jw_up σ1 109 (σ1 103 14) (1048576 * (jo_ss (jk_h b m i))))) _
      refine jw_W_n 2 (i' := 36) (ls' := [some (.inr (.inr 103)), some (.inl ((B.length : Int))), some (.inl (jo_ss (jk_h b m i)))]) (st' := [.inl (σ1 103 14 + 1), .inr (.inr 103)]) rfl ?_
      refine jw_W_pf (a := σ1 103 14 + 1) rfl (by omega) rfl rfl rfl rfl rfl ?_
      refine jw_W_n 2 (i' := 39) (ls' := [some (.inr (.inr 103)), some (.inl ((B.length : Int))), some (.inl (jo_ss (jk_h b m i)))]) (st' := [.inr (.inr 103), .inr (.inr 103)]) rfl ?_
      refine jw_W_gf rfl rfl rfl ?_
      show jw_W (js_S n) _ md_199 40 [some (.inr (.inr 103)), some (.inl ((B.length : Int))), some (.inl (jo_ss (jk_h b m i)))] [.inl (σ1 103 8), .inr (.inr 103)] ((jw_up (jw_up σ1 109 (σ1 103 14) (1048576 * (jo_ss (jk_h b m i)))) 103 14 (σ1 103 14 + 1))) _
      refine jw_W_n 2 (i' := 42) (ls' := [some (.inr (.inr 103)), some (.inl ((B.length : Int))), some (.inl (jo_ss (jk_h b m i)))]) (st' := [.inl (σ1 103 8 + 1), .inr (.inr 103)]) rfl ?_
      refine jw_W_pf (a := σ1 103 8 + 1) rfl (by omega) rfl rfl rfl rfl rfl ?_
      obtain ⟨σ2, hs2⟩ : ∃ s : jw_H, s = jw_up (jw_up (jw_up σ1 109 (σ1 103 14) (1048576 * (jo_ss (jk_h b m i)))) 103 14 (σ1 103 14 + 1)) 103 8 (σ1 103 8 + 1) := ⟨_, rfl⟩
      show jw_W (js_S n) _ _ _ _ _ (jw_up (jw_up (jw_up σ1 109 (σ1 103 14) (1048576 * (jo_ss (jk_h b m i)))) 103 14 (σ1 103 14 + 1)) 103 8 (σ1 103 8 + 1)) _
      rw [← hs2]
      have hf2 : jo_f σ1 σ2 := by rw [hs2]; exact jo_f_up (jo_f_up (jo_f_up (jo_f_rf σ1) (by omega)) (by omega)) (by omega)
      have hR2 := jo_rp_push (υ := σ2) (s := jo_ss (jk_h b m i)) hR1 (by omega) hf2 (by rw [hs2, jw_up_eq, k8]) (by omega) (by rw [hs2]; rfl) (by rw [hs2]; rfl) (by rw [hs2]; rfl) (by rw [hs2]; rfl) (by rw [hs2, jw_up_out _ _ _ (by omega), jw_up_out _ _ _ (by omega), jw_up_eq]) (fun j hj => by rw [hs2, jw_up_out _ _ _ (by omega), jw_up_out _ _ _ (by omega), jw_up_ne _ (by omega)])
      have hff := jo_f_tr hf (jo_f_tr hf1 hf2)
      refine jw_W_n 1 (i' := 44) (ls' := [some (.inr (.inr 103)), some (.inl ((B.length : Int))), some (.inl (jo_ss (jk_h b m i)))]) (st' := [.inr (.inr 103)]) rfl ?_
      refine jw_W_call (as := [.inr (.inr 103)]) (rest := []) rfl rfl rfl rfl (Nat.le_of_ble_eq_true rfl) (.inr rfl) (jw_T_of (D := 3) (M := mm_197) rfl (Nat.le_of_ble_eq_true rfl) (ls0 := [some (.inr (.inr 103)), none]) rfl (g45t (by omega) (by omega) σ2 hR2 hff) (by rintro _ _ (⟨rfl, -⟩ | ⟨rfl, -⟩) <;> rfl)) (by omega) ?_ rfl
      rintro r1 σz (⟨rfl, hq⟩ | ⟨rfl, hq⟩)
      · rename jw_H => σr
        show jw_W (js_S n) _ md_199 45 [some (.inr (.inr 103)), some (.inl ((B.length : Int))), some (.inl (jo_ss (jk_h b m i)))] [.inl 0] σr _
        refine jw_W_if rfl (by unfold jw_rg; omega) (fun hc12 => ?_) (fun hc12 => ?_)
        · exact absurd hc12 (show ¬ ((0 : Int) ≠ 0) by omega)
        · clear hc12
          refine jw_W_n 1 (i' := 47) (ls' := [some (.inr (.inr 103)), some (.inl ((B.length : Int))), some (.inl (jo_ss (jk_h b m i)))]) (st' := [.inl 0]) rfl ?_
          refine jw_W_ir rfl ?_
          exact hq
      · rename jw_H => σs
        show jw_W (js_S n) _ md_199 45 [some (.inr (.inr 103)), some (.inl ((B.length : Int))), some (.inl (jo_ss (jk_h b m i)))] [.inl 1] σs _
        refine jw_W_if rfl (by unfold jw_rg; omega) (fun hc13 => ?_) (fun hc13 => ?_)
        · clear hc13
          refine jw_W_n 1 (i' := 8) (ls' := [some (.inr (.inr 103)), some (.inl ((B.length : Int))), some (.inl (jo_ss (jk_h b m i)))]) (st' := []) rfl ?_
          exact hq _
        · exact absurd hc13 (show ¬ ¬ ((1 : Int) ≠ 0) by omega)
theorem jo_sums_sc {n : Nat} {b : Int → Int} {d m : Int} {B : jo_C} (hB : jo_b B) {σ0 : jw_H} {Q : Option jw_V → jw_H → Prop} : jo_sc b m (jo_Er σ0 Q) (jo_PF n b d m B σ0 Q) (jo_PA n b d m B σ0 Q) (jo_Dn b d m B σ0 Q) := by
  have hs := fun i => jo_ss_rg (jk_h b m i)
  refine ⟨fun i U c o h h6 k => jo_F_step (fun _ _ => k) (fun _ h7 => by omega) (fun h7 => absurd h h7) (fun h7 => absurd h h7), fun i U c o h h6 k => jo_F_step (fun _ h7 => by omega) (fun _ _ => k) (fun h7 => absurd h h7) (fun h7 => absurd h h7), fun i U c o h k1 k2 => jo_F_step (fun h7 => absurd h7 h) (fun h7 => absurd h7 h) (fun _ => k1) (fun _ => k2), fun i U c o V c' h hc k => ?_, fun i U c o V c' h hc k => ?_, fun i U c o V c' h hh hc k => ?_, fun i U c o h1 h2 h3 hh k => ?_, fun i U c o c' h1 h2 hh hc k => ?_⟩
  · have e : jo_ss (jk_h b m i) = jl_tim (jk_h b m i) ∧ 4 ≤ jl_tim (jk_h b m i) := by have := hs i; omega
    refine jo_A_step hB (fun _ _ => ?_) (fun _ h4 => by omega) (fun h4 => by omega) (fun h4 => by omega) (fun h4 => by omega)
    rw [e.1, hc]
    exact k
  · have e : jo_ss (jk_h b m i) = jl_sgn (jk_h b m i) ∧ jl_sgn (jk_h b m i) ≤ 3 ∧ 2 ≤ jl_sgn (jk_h b m i) := by have := hs i; omega
    refine jo_A_step hB (fun _ h4 => by omega) (fun _ _ => ?_) (fun h4 => by omega) (fun h4 => by omega) (fun h4 => by omega)
    rw [e.1, hc]
    exact k
  · have e : jo_ss (jk_h b m i) = -1 := by rw [h]; rfl
    exact jo_A_step hB (fun h4 => absurd e h4) (fun h4 => absurd e h4) (fun _ _ _ => ⟨V, c', hc, k⟩) (fun _ h4 => absurd h h4) (fun _ h4 => absurd hh h4)
  · have e : jo_ss (jk_h b m i) = -1 := by have := hs i; omega
    exact jo_A_step hB (fun h4 => absurd e h4) (fun h4 => absurd e h4) (fun _ h4 => absurd h4 h3) (fun _ _ _ => k) (fun _ h4 => absurd hh h4)
  · have e : jo_ss (jk_h b m i) = -1 := by have := hs i; omega
    exact jo_A_step hB (fun h4 => absurd e h4) (fun h4 => absurd e h4) (fun _ _ h4 => absurd h4 hh) (fun _ _ h4 => absurd h4 hh) (fun _ _ => ⟨c', hc, k⟩)
theorem jo_readsSum {n : Nat} {σ : jw_H} {b : Int → Int} {d m i o : Int} {W c : jo_C} (hR : jo_rp b d m i o W c σ) (hB : jo_b W) {k : Nat} (hk : o + (k : Int) = 6)  : jw_T (js_S n) 5 199 [.inr (.inr 103)] σ (fun r σ' => jo_f σ σ' ∧ ((r = some (.inl 0) ∧ (jl_S b m k i).1 ≠ 0 ∧ σ' 103 10 = (jl_S b m k i).1) ∨ (r = some (.inl 1) ∧ (jl_S b m k i).1 = 0 ∧ jo_rp b d m (jl_S b m k i).2.1 o W (c ++ (jl_S b m k i).2.2) σ'))) := by
  refine jw_T_of (D := 4) (M := mm_199) rfl (Nat.le_of_ble_eq_true rfl) (ls0 := [some (.inr (.inr 103)), none, none]) rfl ?_ (by rintro _ _ ⟨-, ⟨rfl, -⟩ | ⟨rfl, -⟩⟩ <;> rfl)
  have hR0 := hR
  obtain ⟨ht, em, h240, h8, hi, h12, ho, h13, h14, hb, hc, hw⟩ := hR
  have hPF : jo_PF n b d m W σ (fun r σ' => jo_f σ σ' ∧ ((r = some (.inl 0) ∧ (jl_S b m k i).1 ≠ 0 ∧ σ' 103 10 = (jl_S b m k i).1) ∨ (r = some (.inl 1) ∧ (jl_S b m k i).1 = 0 ∧ jo_rp b d m (jl_S b m k i).2.1 o W (c ++ (jl_S b m k i).2.2) σ'))) i [] c o := jo_sums (jo_sums_sc hB) h240 hi.1 hk (fun h σ' hf he => ⟨hf, .inl ⟨rfl, h, he⟩⟩) (fun h σ' hf he => ⟨hf, .inr ⟨rfl, h, he⟩⟩)
  refine jw_W_n 1 (i' := 1) (ls' := [some (.inr (.inr 103)), none, none]) (st' := [.inr (.inr 103)]) rfl ?_
  refine jw_W_gf rfl rfl rfl ?_
  show jw_W (js_S n) _ md_199 2 [some (.inr (.inr 103)), none, none] [.inl (σ 103 14)] σ _
  refine jw_W_n 1 (i' := 3) (ls' := [some (.inr (.inr 103)), some (.inl (σ 103 14)), none]) (st' := []) rfl ?_
  rw [h14]
  refine jw_W_n 1 (i' := 4) (ls' := [some (.inr (.inr 103)), some (.inl ((W.length : Int))), none]) (st' := [.inr (.inr 103)]) rfl ?_
  refine jw_W_call (as := [.inr (.inr 103)]) (rest := []) rfl rfl rfl rfl (Nat.le_of_ble_eq_true rfl) (.inr rfl) (jw_T_of (D := 3) (M := mm_197) rfl (Nat.le_of_ble_eq_true rfl) (ls0 := [some (.inr (.inr 103)), none]) rfl (hPF σ hR0 (jo_f_rf σ)) (by rintro _ _ (⟨rfl, -⟩ | ⟨rfl, -⟩) <;> rfl)) (by omega) ?_ rfl
  rintro r1 σz (⟨rfl, hq⟩ | ⟨rfl, hq⟩)
  · rename jw_H => σr
    show jw_W (js_S n) _ md_199 5 [some (.inr (.inr 103)), some (.inl ((W.length : Int))), none] [.inl 0] σr _
    refine jw_W_if rfl (by unfold jw_rg; omega) (fun hc1 => ?_) (fun hc1 => ?_)
    · exact absurd hc1 (show ¬ ((0 : Int) ≠ 0) by omega)
    · clear hc1
      refine jw_W_n 1 (i' := 7) (ls' := [some (.inr (.inr 103)), some (.inl ((W.length : Int))), none]) (st' := [.inl 0]) rfl ?_
      refine jw_W_ir rfl ?_
      exact hq
  · rename jw_H => σs
    show jw_W (js_S n) _ md_199 5 [some (.inr (.inr 103)), some (.inl ((W.length : Int))), none] [.inl 1] σs _
    refine jw_W_if rfl (by unfold jw_rg; omega) (fun hc2 => ?_) (fun hc2 => ?_)
    · clear hc2
      exact hq _
    · exact absurd hc2 (show ¬ ¬ ((1 : Int) ≠ 0) by omega)

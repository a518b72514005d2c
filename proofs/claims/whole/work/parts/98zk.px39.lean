/-! ===== some corner is efficient; ideal ===== -/
theorem jx_max (d : ge_D) (P : Int → ge_R) : ∀ m : Nat, (∀ i : Int, 0 ≤ i → i ≤ m → 0 < (P i).2.2.2) → ∃ b : Int, 0 ≤ b ∧ b ≤ m ∧ ∀ i : Int, 0 ≤ i → i ≤ m → ¬ jx_wl d (P b) (P i)
  | 0, _ => ⟨0, by omega, by omega, fun i i0 i1 => by
    have : i = 0 := by omega
    rw [this]
    unfold jx_wl
    omega⟩
  | m + 1, h => by
    obtain ⟨b, b0, b1, hb⟩ := jx_max d P m (fun i i0 i1 => h i i0 (by omega))
    by_cases e : jx_wl d (P b) (P ((m : Int) + 1))
    · refine ⟨(m : Int) + 1, by omega, by omega, fun i i0 i1 hh => ?_⟩
      by_cases ei : i = (m : Int) + 1
      · rw [ei] at hh
        exact jx_wl_as hh hh
      · exact hb i i0 (by omega) (jx_wl_2 (h b b0 (by omega)) (h _ (by omega) (by omega)) (h i i0 (by omega)) e (jx_wl_as hh))
    · refine ⟨b, b0, by omega, fun i i0 i1 => ?_⟩
      by_cases ei : i = (m : Int) + 1
      · rw [ei]
        exact e
      · exact hb i i0 (by omega)
/-- more of a sum: by three points -/
theorem jx_fl3 {a b c u v w : Int} (hu : 0 < u) (hv : 0 < v) (hw : 0 < w) (h1 : a * v < b * u) (h2 : b * w ≤ c * v) : a * w < c * u := by
  refine Int.lt_of_mul_lt_mul_right ?_ (Int.le_of_lt hv)
  have g1 := Int.mul_lt_mul_of_pos_right h1 hw
  have g2 := Int.mul_le_mul_of_nonneg_right h2 (Int.le_of_lt hu)
  have e1 : a * w * v = a * v * w := Int.mul_right_comm ..
  have e2 : b * u * w = b * w * u := Int.mul_right_comm ..
  have e3 : c * v * u = c * u * v := Int.mul_right_comm ..
  omega
theorem ge_e_f {p q : ge_R} (h : ge_e p q) (f : ge_D) : ge_f f p * q.2.2.2 = ge_f f q * p.2.2.2 := by
  obtain ⟨h1, h2, h3⟩ := h
  simp only [ge_f]
  grind
/-- a point of the body has no more of a sum than some corner -/
theorem jm_topc {σ : jw_H} {C : List (ge_R × Int)} (h : jm_KN σ C) (f : ge_D) {q : ge_R} (hq : ge_F (jm_RR (σ 103 3) (jm_bA σ)) q) : ∃ i, 0 ≤ i ∧ i < σ 103 56 ∧ ge_f f q * (jm_ct σ i).2.2.2 ≤ ge_f f (jm_ct σ i) * q.2.2.2 := by
  have hP := h.1.1
  have hcb := (jm_kw_cbd h.1).2 σ (jm_fk_rf σ)
  obtain ⟨v, hv, h2, h3, h4⟩ := ge_vert (jm_bA_B hP) f hq
  obtain ⟨x, hx, hxe⟩ := h.1.2.1.2.1.2.1 v hv
  have hl := h.1.2.1.1.1
  obtain ⟨i, hi, e⟩ := List.getElem_of_mem hx
  have hc := (h.1.2.1.1.2 i x (by rw [List.getElem?_eq_getElem hi, e])).1
  refine ⟨(i : Int), by omega, by omega, ?_⟩
  rw [hc]
  have wx : 0 < x.1.2.2.2 := by
    have := (jx_ct_bd hcb (i := (i : Int)) (by omega) (by omega)).2.2.2
    rw [hc] at this
    exact this.1
  have e2 := ge_e_f hxe f
  exact jx_fle (b := q.2.2.2) (d := v.2.2.2) (f := x.1.2.2.2) hq.1 hv.1.1 wx h4 (by omega)
/-- some corner is efficient -/
theorem jm_some {σ : jw_H} {C : List (ge_R × Int)} (h : jm_KN σ C) (hn : 0 < σ 103 56) : ∃ i, 0 ≤ i ∧ i < σ 103 56 ∧ jm_good σ i := by
  have hcb := (jm_kw_cbd h.1).2 σ (jm_fk_rf σ)
  have hw : ∀ i : Int, 0 ≤ i → i < σ 103 56 → 0 < (jm_ct σ i).2.2.2 := fun i i0 i1 => (jx_ct_bd hcb i0 i1).2.2.2.1
  obtain ⟨b, b0, b1, hb⟩ := jx_max (ge_sum (jm_F σ)) (jm_ct σ) (σ 103 56 - 1).toNat (fun i i0 i1 => hw i i0 (by omega))
  refine ⟨b, b0, by omega, (jx_good h b0 (by omega)).mpr ?_⟩
  rintro ⟨q, hq, hbt⟩
  have h5 := ge_sum_lt hbt
  obtain ⟨i, i0, i1, h6⟩ := jm_topc h (ge_sum (jm_F σ)) hq
  exact hb i i0 (by omega) (jx_fl3 (hw b b0 (by omega)) hq.1 (hw i i0 i1) h5 h6)
/-- the answers of ideal -/
def jm_idc (σ : jw_H) (w t : Int) : Prop := (0 ≤ w ∧ w < σ 103 4) ∧ (0 ≤ t ∧ t ≤ 3) ∧ σ 103 56 ≠ 0
def jm_ida (σ : jw_H) (w t v : Int) : Prop := (v = -100000000 ∧ ¬ jm_idc σ w t) ∨ (jm_idc σ w t ∧ ∃ b, (t < 2 ∧ jm_mst σ w (σ 103 56) b ∨ 2 ≤ t ∧ jm_wst σ w (σ 103 56) b ∧ 0 ≤ b) ∧ v = jm_of (ge_f (jm_W σ w) (jm_ct σ b)) (σ 135 b) (jw_rem t 2))
theorem jm_mst_uq {σ : jw_H} {w m b c : Int} (h1 : jm_mst σ w m b) (h2 : jm_mst σ w m c) : b = c := by
  rcases (show b < c ∨ b = c ∨ c < b by omega) with h | h | h
  · exact absurd ((h2.2 b h1.1.1 h1.1.2).2 h) (h1.2 c h2.1.1 h2.1.2).1
  · exact h
  · exact absurd ((h1.2 c h2.1.1 h2.1.2).2 h) (h2.2 b h1.1.1 h1.1.2).1
theorem jm_wst_uq {σ : jw_H} {w m b c : Int} (h1 : jm_wst σ w m b) (b0 : 0 ≤ b) (h2 : jm_wst σ w m c) (c0 : 0 ≤ c) : b = c := by
  rcases h1 with ⟨h1, -⟩ | ⟨a1, a2, a3⟩
  · omega
  rcases h2 with ⟨h2, -⟩ | ⟨d1, d2, d3⟩
  · omega
  rcases (show b < c ∨ b = c ∨ c < b by omega) with h | h | h
  · exact absurd ((d3 b a1.1 a1.2 a2).2 h) (a3 c d1.1 d1.2 d2).1
  · exact h
  · exact absurd ((a3 c d1.1 d1.2 d2).2 h) (d3 b a1.1 a1.2 a2).1
theorem jm_wst_ex {σ : jw_H} {C : List (ge_R × Int)} (hK : jm_KN σ C) (hn : 0 < σ 103 56) {w b : Int} (h : jm_wst σ w (σ 103 56) b) : 0 ≤ b ∧ b < σ 103 56 := by
  rcases h with ⟨-, h⟩ | ⟨h, -⟩
  · obtain ⟨i, i0, i1, hg⟩ := jm_some hK hn
    exact absurd hg (h i i0 i1)
  · exact h
theorem jm_ida_uq {σ : jw_H} {w t u v : Int} (h1 : jm_ida σ w t u) (h2 : jm_ida σ w t v) : u = v := by
  rcases h1 with ⟨e1, a1⟩ | ⟨a1, b, hb, e1⟩
  · rcases h2 with ⟨e2, a2⟩ | ⟨a2, -⟩
    · rw [e1, e2]
    · exact absurd a2 a1
  · rcases h2 with ⟨e2, a2⟩ | ⟨a2, c, hc, e2⟩
    · exact absurd a1 a2
    · have : b = c := by
        rcases hb with ⟨t1, hb⟩ | ⟨t1, hb, b0⟩
        · rcases hc with ⟨t2, hc⟩ | ⟨t2, hc, c0⟩
          · exact jm_mst_uq hb hc
          · omega
        · rcases hc with ⟨t2, hc⟩ | ⟨t2, hc, c0⟩
          · omega
          · exact jm_wst_uq hb b0 hc c0
      rw [e1, e2, this]
theorem jm_ida_me {σ0 σ : jw_H} (h : jx_me σ0 σ) (w t v : Int) : jm_ida σ w t v ↔ jm_ida σ0 w t v := by
  unfold jm_ida jm_idc jm_mst jm_wst jm_wl jm_good jm_W
  simp only [jx_me_ct h, h 103 (by omega), h 104 (by omega), h 135 (by omega)]
theorem jx_rem2 {t : Int} (t0 : 0 ≤ t) (t1 : t ≤ 3) : jw_rem t 2 = 0 ∨ jw_rem t 2 = 1 := by
  rcases (show t = 0 ∨ t = 1 ∨ t = 2 ∨ t = 3 by omega) with rfl | rfl | rfl | rfl <;> decide
theorem jm_ideal {n : Nat} {σ : jw_H} {C : List (ge_R × Int)} (hKN : jm_KN σ C) {w t : Int} (hrw : jw_rg w) (ht : jw_rg t) : jw_T (js_S n) 5 292 [.inr (.inr 103), .inl w, .inl t] σ (fun r σ' => ∃ v, r = some (.inr (.inl v)) ∧ σ' = σ ∧ jm_ida σ w t v) := by
  refine jw_T_of (D := 4) (M := mm_292) rfl (Nat.le_of_ble_eq_true rfl) (ls0 := [some (.inr (.inr 103)), some (.inl w), some (.inl t), none]) rfl ?_ (by rintro _ _ ⟨_, rfl, -⟩; rfl)
  have hcb := (jm_kw_cbd hKN.1).2 σ (jm_fk_rf σ)
  have hcn := hcb.1
  have hPm := hKN.1.1
  have hqq := hPm.1
  have hww := hPm.2.1
  have hkk := hPm.2.2.1
  have hg57 := hKN.2.2.1.1
  have hg58 := hKN.2.2.2.1.1
  have rht := ht
  unfold jw_rg at rht
  refine jw_W_n 2 (i' := 2) (ls' := [some (.inr (.inr 103)), some (.inl w), some (.inl t), none]) (st' := [.inl w, .inr (.inr 103)]) rfl ?_
  refine jw_W_call (as := [.inr (.inr 103), .inl w]) (rest := []) rfl rfl rfl rfl (Nat.le_of_ble_eq_true rfl) (.inr rfl) (jm_isWish hPm hrw) (by omega) ?_ rfl
  rintro r1 σz (⟨rfl, hs, q1⟩ | ⟨rfl, hs, q1⟩)
  · rw [hs]
    show jw_W (js_S n) _ md_292 3 [some (.inr (.inr 103)), some (.inl w), some (.inl t), none] [.inl 1] σ _
    refine jw_W_if rfl (by unfold jw_rg; omega) (fun hc1 => ?_) (fun hc1 => ?_)
    · exact absurd hc1 (show ¬ ((1 : Int) = 0) by omega)
    · clear hc1
      refine jw_W_n 3 (i' := 7) (ls' := [some (.inr (.inr 103)), some (.inl w), some (.inl t), none]) (st' := [.inl 3, .inl 0, .inl t]) rfl ?_
      refine jw_W_call (as := [.inl t, .inl 0, .inl 3]) (rest := []) rfl rfl rfl rfl (Nat.le_of_ble_eq_true rfl) (.inl rfl) (jm_in (by unfold jw_rg; omega) (by unfold jw_rg; omega) (by unfold jw_rg; omega)) (by omega) ?_ rfl
      rintro r1 σz (⟨rfl, hs, q2⟩ | ⟨rfl, hs, q2⟩)
      · rw [hs]
        show jw_W (js_S n) _ md_292 8 [some (.inr (.inr 103)), some (.inl w), some (.inl t), none] [.inl 1] σ _
        refine jw_W_if rfl (by unfold jw_rg; omega) (fun hc2 => ?_) (fun hc2 => ?_)
        · exact absurd hc2 (show ¬ ((1 : Int) = 0) by omega)
        · clear hc2
          refine jw_W_n 1 (i' := 10) (ls' := [some (.inr (.inr 103)), some (.inl w), some (.inl t), none]) (st' := [.inr (.inr 103)]) rfl ?_
          refine jw_W_gf rfl rfl rfl ?_
          show jw_W (js_S n) _ md_292 11 [some (.inr (.inr 103)), some (.inl w), some (.inl t), none] [.inl (σ 103 56)] σ _
          refine jw_W_if rfl (by unfold jw_rg; omega) (fun hc3 => ?_) (fun hc3 => ?_)
          · have hc3 : (σ 103 56) ≠ 0 := hc3
            refine jw_W_n 2 (i' := 16) (ls' := [some (.inr (.inr 103)), some (.inl w), some (.inl t), none]) (st' := [.inl 2, .inl t]) rfl ?_
            refine jw_W_ic rfl (by unfold jw_rg; omega) (by unfold jw_rg; omega) (fun hc4 => ?_) (fun hc4 => ?_)
            · have hc4 : t ≥ 2 := hc4
              refine jw_W_n 2 (i' := 23) (ls' := [some (.inr (.inr 103)), some (.inl w), some (.inl t), none]) (st' := [.inl w, .inr (.inr 103)]) rfl ?_
              refine jw_W_call (as := [.inr (.inr 103), .inl w]) (rest := []) rfl rfl rfl rfl (Nat.le_of_ble_eq_true rfl) (.inr rfl) (jm_worstOf hPm hcb hg57 (by omega) (by omega)) (by omega) ?_ rfl
              rintro r1 σz ⟨b, rfl, hs, hb⟩
              rw [hs]
              have hb1 := jm_wst_ex hKN (by omega) hb
              show jw_W (js_S n) _ md_292 24 [some (.inr (.inr 103)), some (.inl w), some (.inl t), none] [.inl b] σ _
              refine jw_W_n 4 (i' := 28) (ls' := [some (.inr (.inr 103)), some (.inl w), some (.inl t), some (.inl b)]) (st' := [.inl b, .inl w, .inr (.inr 103)]) rfl ?_
              refine jw_W_call (as := [.inr (.inr 103), .inl w, .inl b]) (rest := []) rfl rfl rfl rfl (Nat.le_of_ble_eq_true rfl) (.inr rfl) (jm_wishedOf hPm hcb (by omega) (by omega) (by omega) (by omega)) (by omega) ?_ rfl
              rintro r1 σz ⟨rfl, hs⟩
              rw [hs]
              have hfb := jm_f_bd (jm_W_sm hPm (k := w) (by omega) (by omega)) (hcb.2 b hb1.1 hb1.2).1
              have hcw := jm_cw hcb hb1.1 hb1.2
              have hcw2 : σ 135 b ≤ 162 := (hcb.2 b hb1.1 hb1.2).2
              have hr2 := jx_rem2 (t := t) (by omega) (by omega)
              show jw_W (js_S n) _ md_292 29 [some (.inr (.inr 103)), some (.inl w), some (.inl t), some (.inl b)] [.inr (.inl (ge_f (jm_W σ w) (jm_ct σ b)))] σ _
              refine jw_W_n 1 (i' := 30) (ls' := [some (.inr (.inr 103)), some (.inl w), some (.inl t), some (.inl b)]) (st' := [.inr (.inr 103), .inr (.inl (ge_f (jm_W σ w) (jm_ct σ b)))]) rfl ?_
              refine jw_W_gf rfl rfl rfl ?_
              show jw_W (js_S n) _ md_292 31 [some (.inr (.inr 103)), some (.inl w), some (.inl t), some (.inl b)] [.inr (.inr 135), .inr (.inl (ge_f (jm_W σ w) (jm_ct σ b)))] σ _
              refine jw_W_n 1 (i' := 32) (ls' := [some (.inr (.inr 103)), some (.inl w), some (.inl t), some (.inl b)]) (st' := [.inl b, .inr (.inr 135), .inr (.inl (ge_f (jm_W σ w) (jm_ct σ b)))]) rfl ?_
              refine jw_W_la rfl rfl (by omega) (by omega) (by omega) ?_
              show jw_W (js_S n) _ md_292 33 [some (.inr (.inr 103)), some (.inl w), some (.inl t), some (.inl b)] [.inr (.inl (σ 135 b)), .inr (.inl (ge_f (jm_W σ w) (jm_ct σ b)))] σ _
              refine jw_W_n 2 (i' := 35) (ls' := [some (.inr (.inr 103)), some (.inl w), some (.inl t), some (.inl b)]) (st' := [.inl 2, .inl t, .inr (.inl (σ 135 b)), .inr (.inl (ge_f (jm_W σ w) (jm_ct σ b)))]) rfl ?_
              refine jw_W_irem rfl (by unfold jw_rg; omega) (by omega) ?_
              refine jw_W_call (as := [.inr (.inl (ge_f (jm_W σ w) (jm_ct σ b))), .inr (.inl (σ 135 b)), .inl (jw_rem t 2)]) (rest := []) rfl rfl rfl rfl (Nat.le_of_ble_eq_true rfl) (.inl rfl) (jm_ofFr (by unfold jm_bg; omega) (by omega) (by omega) (by unfold jw_rg; omega)) (by omega) ?_ rfl
              rintro r1 σz ⟨rfl, hs⟩
              rw [hs]
              show jw_W (js_S n) _ md_292 37 [some (.inr (.inr 103)), some (.inl w), some (.inl t), some (.inl b)] [.inr (.inl (jm_of (ge_f (jm_W σ w) (jm_ct σ b)) (σ 135 b) (jw_rem t 2)))] σ _
              refine jw_W_lr rfl ?_
              refine ⟨_, rfl, rfl, .inr ⟨⟨by omega, by omega, by omega⟩, b, ?_, rfl⟩⟩
              exact .inr ⟨by omega, hb, hb1.1⟩
            · have hc4 : ¬ (t ≥ 2) := hc4
              refine jw_W_n 2 (i' := 19) (ls' := [some (.inr (.inr 103)), some (.inl w), some (.inl t), none]) (st' := [.inl w, .inr (.inr 103)]) rfl ?_
              refine jw_W_call (as := [.inr (.inr 103), .inl w]) (rest := []) rfl rfl rfl rfl (Nat.le_of_ble_eq_true rfl) (.inr rfl) (jm_mostOf hPm hcb (by omega) (by omega) (by omega)) (by omega) ?_ rfl
              rintro r1 σz ⟨b, rfl, hs, hb⟩
              rw [hs]
              have hb1 := hb.1
              show jw_W (js_S n) _ md_292 20 [some (.inr (.inr 103)), some (.inl w), some (.inl t), none] [.inl b] σ _
              refine jw_W_n 5 (i' := 28) (ls' := [some (.inr (.inr 103)), some (.inl w), some (.inl t), some (.inl b)]) (st' := [.inl b, .inl w, .inr (.inr 103)]) rfl ?_
              refine jw_W_call (as := [.inr (.inr 103), .inl w, .inl b]) (rest := []) rfl rfl rfl rfl (Nat.le_of_ble_eq_true rfl) (.inr rfl) (jm_wishedOf hPm hcb (by omega) (by omega) (by omega) (by omega)) (by omega) ?_ rfl
              rintro r1 σz ⟨rfl, hs⟩
              rw [hs]
              have hfb := jm_f_bd (jm_W_sm hPm (k := w) (by omega) (by omega)) (hcb.2 b hb1.1 hb1.2).1
              have hcw := jm_cw hcb hb1.1 hb1.2
              have hcw2 : σ 135 b ≤ 162 := (hcb.2 b hb1.1 hb1.2).2
              have hr2 := jx_rem2 (t := t) (by omega) (by omega)
              show jw_W (js_S n) _ md_292 29 [some (.inr (.inr 103)), some (.inl w), some (.inl t), some (.inl b)] [.inr (.inl (ge_f (jm_W σ w) (jm_ct σ b)))] σ _
              refine jw_W_n 1 (i' := 30) (ls' := [some (.inr (.inr 103)), some (.inl w), some (.inl t), some (.inl b)]) (st' := [.inr (.inr 103), .inr (.inl (ge_f (jm_W σ w) (jm_ct σ b)))]) rfl ?_
              refine jw_W_gf rfl rfl rfl ?_
              show jw_W (js_S n) _ md_292 31 [some (.inr (.inr 103)), some (.inl w), some (.inl t), some (.inl b)] [.inr (.inr 135), .inr (.inl (ge_f (jm_W σ w) (jm_ct σ b)))] σ _
              refine jw_W_n 1 (i' := 32) (ls' := [some (.inr (.inr 103)), some (.inl w), some (.inl t), some (.inl b)]) (st' := [.inl b, .inr (.inr 135), .inr (.inl (ge_f (jm_W σ w) (jm_ct σ b)))]) rfl ?_
              refine jw_W_la rfl rfl (by omega) (by omega) (by omega) ?_
              show jw_W (js_S n) _ md_292 33 [some (.inr (.inr 103)), some (.inl w), some (.inl t), some (.inl b)] [.inr (.inl (σ 135 b)), .inr (.inl (ge_f (jm_W σ w) (jm_ct σ b)))] σ _
              refine jw_W_n 2 (i' := 35) (ls' := [some (.inr (.inr 103)), some (.inl w), some (.inl t), some (.inl b)]) (st' := [.inl 2, .inl t, .inr (.inl (σ 135 b)), .inr (.inl (ge_f (jm_W σ w) (jm_ct σ b)))]) rfl ?_
              refine jw_W_irem rfl (by unfold jw_rg; omega) (by omega) ?_
              refine jw_W_call (as := [.inr (.inl (ge_f (jm_W σ w) (jm_ct σ b))), .inr (.inl (σ 135 b)), .inl (jw_rem t 2)]) (rest := []) rfl rfl rfl rfl (Nat.le_of_ble_eq_true rfl) (.inl rfl) (jm_ofFr (by unfold jm_bg; omega) (by omega) (by omega) (by unfold jw_rg; omega)) (by omega) ?_ rfl
              rintro r1 σz ⟨rfl, hs⟩
              rw [hs]
              show jw_W (js_S n) _ md_292 37 [some (.inr (.inr 103)), some (.inl w), some (.inl t), some (.inl b)] [.inr (.inl (jm_of (ge_f (jm_W σ w) (jm_ct σ b)) (σ 135 b) (jw_rem t 2)))] σ _
              refine jw_W_lr rfl ?_
              refine ⟨_, rfl, rfl, .inr ⟨⟨by omega, by omega, by omega⟩, b, ?_, rfl⟩⟩
              exact .inl ⟨by omega, hb⟩
          · have hc3 : (σ 103 56) = 0 := Classical.not_not.mp hc3
            refine jw_W_ld2 (z := (-100000000)) rfl rfl ?_
            refine jw_W_lr rfl ?_
            exact ⟨_, rfl, rfl, .inl ⟨rfl, by unfold jm_idc; omega⟩⟩
      · rw [hs]
        show jw_W (js_S n) _ md_292 8 [some (.inr (.inr 103)), some (.inl w), some (.inl t), none] [.inl 0] σ _
        refine jw_W_if rfl (by unfold jw_rg; omega) (fun hc5 => ?_) (fun hc5 => ?_)
        · clear hc5
          refine jw_W_ld2 (z := (-100000000)) rfl rfl ?_
          refine jw_W_lr rfl ?_
          exact ⟨_, rfl, rfl, .inl ⟨rfl, by unfold jm_idc; omega⟩⟩
        · exact absurd hc5 (show ¬ ¬ ((0 : Int) = 0) by omega)
  · rw [hs]
    show jw_W (js_S n) _ md_292 3 [some (.inr (.inr 103)), some (.inl w), some (.inl t), none] [.inl 0] σ _
    refine jw_W_if rfl (by unfold jw_rg; omega) (fun hc6 => ?_) (fun hc6 => ?_)
    · clear hc6
      refine jw_W_ld2 (z := (-100000000)) rfl rfl ?_
      refine jw_W_lr rfl ?_
      exact ⟨_, rfl, rfl, .inl ⟨rfl, by unfold jm_idc; omega⟩⟩
    · exact absurd hc6 (show ¬ ¬ ((0 : Int) = 0) by omega)
theorem jx_fwl_loop {n : Nat} {σ : jw_H} {o : Nat} {C : List (ge_R × Int)} (hJ : jx_KJ n o C σ) {w : Int} (w0 : 0 ≤ w) (w1 : w < σ 103 4) : ∀ (f : Nat) {b m : Int}, 0 ≤ m → m + f = σ 103 56 → (b = -1 ∨ 0 ≤ b ∧ b < m) → jm_wst σ w m b → jw_W (js_S n) 3 md_16 4 [some (.inr (.inr 57)), some (.inl w), some (.inl b), some (.inl m)] [] σ (fun r σ' => ∃ b, r = some (.inl b) ∧ σ' = σ ∧ jm_wst σ w (σ 103 56) b)
  | f, b, m, m0, hk, hB, H => by
    have ih : ∀ {b' : Int}, m < σ 103 56 → (b' = -1 ∨ 0 ≤ b' ∧ b' < m + 1) → jm_wst σ w (m + 1) b' → jw_W (js_S n) 3 md_16 4 [some (.inr (.inr 57)), some (.inl w), some (.inl b'), some (.inl (m + 1))] [] σ (fun r σ' => ∃ b, r = some (.inl b) ∧ σ' = σ ∧ jm_wst σ w (σ 103 56) b) := by
      intro b' h1 h2 h3
      match f, hk with
      | 0, hk => omega
      | f + 1, hk => exact jx_fwl_loop hJ w0 w1 f (by omega) (by omega) h2 h3
    have hI := hJ.1
    have hKN := hJ.2.1
    have hjd := hJ.2.2.2
    obtain ⟨hto, hfo, hp, hP, e0, e1, e2, hPm, hcb, c0, p0, -⟩ := jx_I0_x hI
    have ho := hp.1
    have hq := hP.1
    have hw := hP.2.1
    have hq2 := hP.2.2.1
    have hcn := hcb.1
    refine jw_W_n 2 (i' := 6) (ls' := [some (.inr (.inr 57)), some (.inl w), some (.inl b), some (.inl m)]) (st' := [.inr (.inr 57), .inl m]) rfl ?_
    refine jw_W_gf rfl rfl rfl ?_
    show jw_W (js_S n) _ md_16 7 [some (.inr (.inr 57)), some (.inl w), some (.inl b), some (.inl m)] [.inl (σ 57 0), .inl m] σ _
    refine jw_W_ic rfl (by unfold jw_rg; omega) (by unfold jw_rg; omega) (fun hc1 => ?_) (fun hc1 => ?_)
    · have hc1 : m ≥ (σ 57 0) := hc1
      refine jw_W_n 1 (i' := 27) (ls' := [some (.inr (.inr 57)), some (.inl w), some (.inl b), some (.inl m)]) (st' := [.inl b]) rfl ?_
      refine jw_W_ir rfl ?_
      have hkl : m = σ 103 56 := by omega
      subst hkl
      exact ⟨_, rfl, rfl, H⟩
    · have hc1 : ¬ (m ≥ (σ 57 0)) := hc1
      refine jw_W_n 2 (i' := 10) (ls' := [some (.inr (.inr 57)), some (.inl w), some (.inl b), some (.inl m)]) (st' := [.inl m, .inr (.inr 57)]) rfl ?_
      refine jw_W_call (as := [.inr (.inr 57), .inl m]) (rest := []) rfl rfl rfl rfl (Nat.le_of_ble_eq_true rfl) (.inr rfl) (jx_isEfficient hJ m0 (by omega)) (by omega) ?_ rfl
      rintro r1 σz (⟨rfl, hs, hgo⟩ | ⟨rfl, hs, hgo⟩)
      · rw [hs]
        show jw_W (js_S n) _ md_16 11 [some (.inr (.inr 57)), some (.inl w), some (.inl b), some (.inl m)] [.inl 1] σ _
        refine jw_W_if rfl (by unfold jw_rg; omega) (fun hc2 => ?_) (fun hc2 => ?_)
        · exact absurd hc2 (show ¬ ((1 : Int) = 0) by omega)
        · clear hc2
          refine jw_W_n 1 (i' := 13) (ls' := [some (.inr (.inr 57)), some (.inl w), some (.inl b), some (.inl m)]) (st' := [.inl b]) rfl ?_
          refine jw_W_if rfl (by unfold jw_rg; omega) (fun hc3 => ?_) (fun hc3 => ?_)
          · have hc3 : b < 0 := hc3
            refine jw_W_n 4 (i' := 4) (ls' := [some (.inr (.inr 57)), some (.inl w), some (.inl m), some (.inl (m + 1))]) (st' := []) rfl ?_
            exact ih (by omega) (by omega) (jm_wst_yes hcb m0 (by omega) H hgo (by first | (refine .inr ?_; unfold jm_wl; omega) | (refine .inl ?_; omega)))
          · have hc3 : ¬ (b < 0) := hc3
            refine jw_W_n 4 (i' := 18) (ls' := [some (.inr (.inr 57)), some (.inl w), some (.inl b), some (.inl m)]) (st' := [.inl w, .inl b, .inl m, .inr (.inr 57)]) rfl ?_
            refine jw_W_call (as := [.inr (.inr 57), .inl m, .inl b, .inl w]) (rest := []) rfl rfl rfl rfl (Nat.le_of_ble_eq_true rfl) (.inr rfl) (jx_lead hI m0 (by omega) (by omega) (by omega) (by omega) (by omega)) (by omega) ?_ rfl
            rintro r1 σz ⟨rfl, hs⟩
            rw [hs]
            have hl1 := jm_f_w hPm hcb (k := w) (i := m) (j := b) (by omega) (by omega) (by omega) (by omega) (by omega) (by omega)
            have hl2 := jm_f_w hPm hcb (k := w) (i := b) (j := m) (by omega) (by omega) (by omega) (by omega) (by omega) (by omega)
            show jw_W (js_S n) _ md_16 19 [some (.inr (.inr 57)), some (.inl w), some (.inl b), some (.inl m)] [.inr (.inl (ge_f (jm_W σ w) (jm_ct σ m) * σ 135 b - ge_f (jm_W σ w) (jm_ct σ b) * σ 135 m))] σ _
            refine jw_W_n 1 (i' := 20) (ls' := [some (.inr (.inr 57)), some (.inl w), some (.inl b), some (.inl m)]) (st' := [.inr (.inl 0), .inr (.inl (ge_f (jm_W σ w) (jm_ct σ m) * σ 135 b - ge_f (jm_W σ w) (jm_ct σ b) * σ 135 m))]) rfl ?_
            refine jw_W_lc rfl rfl (by unfold jw_rgl; omega) (by unfold jw_rgl; omega) (fun hc4 => ?_) (fun hc4 => ?_)
            · have hc4 : (ge_f (jm_W σ w) (jm_ct σ m) * σ 135 b - ge_f (jm_W σ w) (jm_ct σ b) * σ 135 m) ≥ 0 := hc4
              refine jw_W_n 2 (i' := 4) (ls' := [some (.inr (.inr 57)), some (.inl w), some (.inl b), some (.inl (m + 1))]) (st' := []) rfl ?_
              first | exact ih (by omega) (by omega) (jm_wst_bad H hgo) | exact ih (by omega) (by omega) (jm_wst_no H (by omega) (by unfold jm_wl; omega))
            · have hc4 : ¬ ((ge_f (jm_W σ w) (jm_ct σ m) * σ 135 b - ge_f (jm_W σ w) (jm_ct σ b) * σ 135 m) ≥ 0) := hc4
              refine jw_W_n 4 (i' := 4) (ls' := [some (.inr (.inr 57)), some (.inl w), some (.inl m), some (.inl (m + 1))]) (st' := []) rfl ?_
              exact ih (by omega) (by omega) (jm_wst_yes hcb m0 (by omega) H hgo (by first | (refine .inr ?_; unfold jm_wl; omega) | (refine .inl ?_; omega)))
      · rw [hs]
        show jw_W (js_S n) _ md_16 11 [some (.inr (.inr 57)), some (.inl w), some (.inl b), some (.inl m)] [.inl 0] σ _
        refine jw_W_if rfl (by unfold jw_rg; omega) (fun hc5 => ?_) (fun hc5 => ?_)
        · clear hc5
          refine jw_W_n 2 (i' := 4) (ls' := [some (.inr (.inr 57)), some (.inl w), some (.inl b), some (.inl (m + 1))]) (st' := []) rfl ?_
          first | exact ih (by omega) (by omega) (jm_wst_bad H hgo) | exact ih (by omega) (by omega) (jm_wst_no H (by omega) (by unfold jm_wl; omega))
        · exact absurd hc5 (show ¬ ¬ ((0 : Int) = 0) by omega)
theorem jx_firstWithLeast {n : Nat} {σ : jw_H} {o : Nat} {C : List (ge_R × Int)} (hJ : jx_KJ n o C σ) {w : Int} (w0 : 0 ≤ w) (w1 : w < σ 103 4) : jw_T (js_S n) 4 16 [.inr (.inr 57), .inl w] σ (fun r σ' => ∃ b, r = some (.inl b) ∧ σ' = σ ∧ jm_wst σ w (σ 103 56) b) := by
  refine jw_T_of (D := 3) (M := mm_16) rfl (Nat.le_of_ble_eq_true rfl) (ls0 := [some (.inr (.inr 57)), some (.inl w), none, none]) rfl ?_ (by rintro _ _ ⟨_, rfl, -⟩; rfl)
  have hI := hJ.1
  have hKN := hJ.2.1
  have hjd := hJ.2.2.2
  obtain ⟨hto, hfo, hp, hP, e0, e1, e2, hPm, hcb, c0, p0, -⟩ := jx_I0_x hI
  have ho := hp.1
  have hq := hP.1
  have hw := hP.2.1
  have hq2 := hP.2.2.1
  have hcn := hcb.1
  refine jw_W_n 4 (i' := 4) (ls' := [some (.inr (.inr 57)), some (.inl w), some (.inl ((-1))), some (.inl 0)]) (st' := []) rfl ?_
  exact jx_fwl_loop hJ w0 w1 (σ 103 56).toNat (b := -1) (m := 0) (by omega) (by omega) (.inl rfl) (.inl ⟨rfl, fun i i0 i1 => by omega⟩)
theorem jm_mst_fst {σ : jw_H} {w b : Int} {d : ge_D} {P : Int → ge_R} (hn : 0 < σ 103 56) (hd : d = jm_W σ w) (hP : ∀ i, 0 ≤ i → i < σ 103 56 → P i = jm_ct σ i) (h : jx_fst d P (σ 103 56) b) : jm_mst σ w (σ 103 56) b := by
  rcases h with ⟨h1, -⟩ | ⟨h1, h2⟩
  · omega
  · refine ⟨h1, fun i i0 i1 => ?_⟩
    have h3 := h2 i i0 i1
    unfold jx_wl at h3
    rw [hP i i0 i1, hP b h1.1 h1.2, hd] at h3
    exact h3
theorem jx_ideal {n : Nat} {σ : jw_H} {o : Nat} {C : List (ge_R × Int)} (hK : jx_K n o C σ) {w t : Int} (hrw : jw_rg w) (ht : jw_rg t) : jw_T (js_S n) 8 127 [.inr (.inr 13), .inl w, .inl t] σ (fun r σ' => ∃ v, r = some (.inr (.inl v)) ∧ jx_fx σ σ' ∧ jx_jj σ' ∧ jm_ida σ w t v) := by
  refine jw_T_of (D := 7) (M := mm_127) rfl (Nat.le_of_ble_eq_true rfl) (ls0 := [some (.inr (.inr 13)), some (.inl w), some (.inl t), none]) rfl ?_ (by rintro _ _ ⟨_, rfl, -⟩; rfl)
  have hI := hK.1
  obtain ⟨hto, hfo, hp, hP, e0, e1, e2, hPm, hcb, c0, p0, -⟩ := jx_I0_x hI
  have ho := hp.1
  have hq := hP.1
  have hw := hP.2.1
  have hq2 := hP.2.2.1
  have hcn := hcb.1
  have rht := ht
  unfold jw_rg at rht
  refine jw_W_n 2 (i' := 2) (ls' := [some (.inr (.inr 13)), some (.inl w), some (.inl t), none]) (st' := [.inl w, .inr (.inr 13)]) rfl ?_
  refine jw_W_call (as := [.inr (.inr 13), .inl w]) (rest := []) rfl rfl rfl rfl (Nat.le_of_ble_eq_true rfl) (.inr rfl) (jx_isWish hK hrw) (by omega) ?_ rfl
  rintro r1 σz (⟨rfl, hs, q3⟩ | ⟨rfl, hs, q3⟩)
  · rw [hs]
    show jw_W (js_S n) _ md_127 3 [some (.inr (.inr 13)), some (.inl w), some (.inl t), none] [.inl 1] σ _
    refine jw_W_if rfl (by unfold jw_rg; omega) (fun hc1 => ?_) (fun hc1 => ?_)
    · exact absurd hc1 (show ¬ ((1 : Int) = 0) by omega)
    · clear hc1
      refine jw_W_n 1 (i' := 5) (ls' := [some (.inr (.inr 13)), some (.inl w), some (.inl t), none]) (st' := [.inl t]) rfl ?_
      refine jw_W_if rfl (by unfold jw_rg; omega) (fun hc2 => ?_) (fun hc2 => ?_)
      · have hc2 : t < 0 := hc2
        refine jw_W_ld2 (z := (-100000000)) rfl rfl ?_
        refine jw_W_lr rfl ?_
        exact ⟨_, rfl, jx_fx_rf σ, hK.2.2, .inl ⟨rfl, by unfold jm_idc; omega⟩⟩
      · have hc2 : ¬ (t < 0) := hc2
        refine jw_W_n 2 (i' := 8) (ls' := [some (.inr (.inr 13)), some (.inl w), some (.inl t), none]) (st' := [.inl 3, .inl t]) rfl ?_
        refine jw_W_ic rfl (by unfold jw_rg; omega) (by unfold jw_rg; omega) (fun hc3 => ?_) (fun hc3 => ?_)
        · have hc3 : t > 3 := hc3
          refine jw_W_ld2 (z := (-100000000)) rfl rfl ?_
          refine jw_W_lr rfl ?_
          exact ⟨_, rfl, jx_fx_rf σ, hK.2.2, .inl ⟨rfl, by unfold jm_idc; omega⟩⟩
        · have hc3 : ¬ (t > 3) := hc3
          refine jw_W_n 1 (i' := 10) (ls' := [some (.inr (.inr 13)), some (.inl w), some (.inl t), none]) (st' := [.inr (.inr 13)]) rfl ?_
          refine jw_W_gf rfl rfl rfl ?_
          show jw_W (js_S n) _ md_127 11 [some (.inr (.inr 13)), some (.inl w), some (.inl t), none] [.inr (.inr 57)] σ _
          refine jw_W_gf rfl rfl rfl ?_
          show jw_W (js_S n) _ md_127 12 [some (.inr (.inr 13)), some (.inl w), some (.inl t), none] [.inl (σ 57 0)] σ _
          refine jw_W_if rfl (by unfold jw_rg; omega) (fun hc4 => ?_) (fun hc4 => ?_)
          · have hc4 : (σ 57 0) ≠ 0 := hc4
            refine jw_W_n 1 (i' := 16) (ls' := [some (.inr (.inr 13)), some (.inl w), some (.inl t), none]) (st' := [.inr (.inr 13)]) rfl ?_
            refine jw_W_gf rfl rfl rfl ?_
            show jw_W (js_S n) _ md_127 17 [some (.inr (.inr 13)), some (.inl w), some (.inl t), none] [.inr (.inr 57)] σ _
            refine jw_W_call (as := [.inr (.inr 57)]) (rest := []) rfl rfl rfl rfl (Nat.le_of_ble_eq_true rfl) (.inr rfl) (jx_judgeK hK) (by omega) ?_ rfl
            rintro r1 σ1 ⟨rfl, hf1, hK1⟩
            have hI1 := hK1.1
            have hfo1 := hI1.2.1.1
            have hto1 : (σ1 13 2).toNat = o := by have := hI1.1.1; omega
            have hKN1 := hK1.2.1
            have hjd1 := hK1.2.2.2
            have hme1 := jx_fx_me hf1
            have e1031 : σ1 103 = σ 103 := hme1 103 (by omega)
            have e5701 : σ1 57 0 = σ 103 56 := by rw [← e1031]; exact hI1.2.1.2.1
            have hI1x := jx_I0_x hI1
            have hPm1 := hI1x.2.2.2.2.2.2.2.1
            have hcb1 := hI1x.2.2.2.2.2.2.2.2.1
            have e0561 : σ1 103 56 = σ 103 56 := by rw [e1031]
            have e0031 : σ1 103 3 = σ 103 3 := by rw [e1031]
            have e0041 : σ1 103 4 = σ 103 4 := by rw [e1031]
            have e0051 : σ1 103 5 = σ 103 5 := by rw [e1031]
            show jw_W (js_S n) _ md_127 18 [some (.inr (.inr 13)), some (.inl w), some (.inl t), none] [] σ1 _
            refine jw_W_n 2 (i' := 20) (ls' := [some (.inr (.inr 13)), some (.inl w), some (.inl t), none]) (st' := [.inl 2, .inl t]) rfl ?_
            refine jw_W_ic rfl (by unfold jw_rg; omega) (by unfold jw_rg; omega) (fun hc5 => ?_) (fun hc5 => ?_)
            · have hc5 : t ≥ 2 := hc5
              refine jw_W_n 1 (i' := 33) (ls' := [some (.inr (.inr 13)), some (.inl w), some (.inl t), none]) (st' := [.inr (.inr 13)]) rfl ?_
              refine jw_W_gf rfl rfl rfl ?_
              show jw_W (js_S n) _ md_127 34 [some (.inr (.inr 13)), some (.inl w), some (.inl t), none] [.inr (.inr 57)] σ1 _
              refine jw_W_n 1 (i' := 35) (ls' := [some (.inr (.inr 13)), some (.inl w), some (.inl t), none]) (st' := [.inl w, .inr (.inr 57)]) rfl ?_
              refine jw_W_call (as := [.inr (.inr 57), .inl w]) (rest := []) rfl rfl rfl rfl (Nat.le_of_ble_eq_true rfl) (.inr rfl) (jx_firstWithLeast hK1 (by omega) (by omega)) (by omega) ?_ rfl
              rintro r1 σz ⟨b, rfl, hs, hb⟩
              rw [hs]
              have hb1 := jm_wst_ex hKN1 (by omega) hb
              show jw_W (js_S n) _ md_127 36 [some (.inr (.inr 13)), some (.inl w), some (.inl t), none] [.inl b] σ1 _
              refine jw_W_n 2 (i' := 38) (ls' := [some (.inr (.inr 13)), some (.inl w), some (.inl t), some (.inl b)]) (st' := [.inl b]) rfl ?_
              refine jw_W_if rfl (by unfold jw_rg; omega) (fun hc6 => ?_) (fun hc6 => ?_)
              · have hc6 : b ≥ 0 := hc6
                refine jw_W_n 2 (i' := 43) (ls' := [some (.inr (.inr 13)), some (.inl w), some (.inl t), some (.inl b)]) (st' := [.inr (.inr 13), .inr (.inr 13)]) rfl ?_
                refine jw_W_gf rfl rfl rfl ?_
                show jw_W (js_S n) _ md_127 44 [some (.inr (.inr 13)), some (.inl w), some (.inl t), some (.inl b)] [.inr (.inr 57), .inr (.inr 13)] σ1 _
                refine jw_W_gf rfl rfl rfl ?_
                show jw_W (js_S n) _ md_127 45 [some (.inr (.inr 13)), some (.inl w), some (.inl t), some (.inl b)] [.inr (.inr 58), .inr (.inr 13)] σ1 _
                refine jw_W_n 2 (i' := 47) (ls' := [some (.inr (.inr 13)), some (.inl w), some (.inl t), some (.inl b)]) (st' := [.inr (.inr 13), .inl b, .inr (.inr 58), .inr (.inr 13)]) rfl ?_
                refine jw_W_gf rfl rfl rfl ?_
                show jw_W (js_S n) _ md_127 48 [some (.inr (.inr 13)), some (.inl w), some (.inl t), some (.inl b)] [.inr (.inr ((σ1 13 2).toNat)), .inl b, .inr (.inr 58), .inr (.inr 13)] σ1 _
                rw [hto1]
                refine jw_W_gf rfl hp.2.1 rfl ?_
                show jw_W (js_S n) _ md_127 49 [some (.inr (.inr 13)), some (.inl w), some (.inl t), some (.inl b)] [.inr (.inr (o + 1)), .inl b, .inr (.inr 58), .inr (.inr 13)] σ1 _
                refine jw_W_n 3 (i' := 52) (ls' := [some (.inr (.inr 13)), some (.inl w), some (.inl t), some (.inl b)]) (st' := [.inl (3 * w), .inr (.inr (o + 1)), .inl b, .inr (.inr 58), .inr (.inr 13)]) rfl ?_
                refine jw_W_call (as := [.inr (.inr 58), .inl b, .inr (.inr (o + 1)), .inl (3 * w)]) (rest := [.inr (.inr 13)]) rfl rfl rfl rfl (Nat.le_of_ble_eq_true rfl) (.inr rfl) (jx_value (f := 3 * w) (jx_pp_58 n) hp.2.2.1 (by omega) (by omega) (by omega) (i := b) (by omega) (by omega)) (by omega) ?_ rfl
                rintro r1 σz ⟨rfl, hs⟩
                rw [hs, (jx_I0_W hI1 (show 0 ≤ w by omega) (show w < σ1 103 4 by omega)).1, (jx_I0_c hI1 hb1.1 hb1.2).1]
                have hfb := jm_f_bd (jm_W_sm hPm1 (k := w) (by omega) (by omega)) (hcb1.2 b hb1.1 hb1.2).1
                have hcw := jm_cw hcb1 hb1.1 hb1.2
                have hcw2 : σ1 135 b ≤ 162 := (hcb1.2 b hb1.1 hb1.2).2
                have e62 : σ1 62 b = σ1 135 b := congrArg (fun v : ge_R => v.2.2.2) (jx_I0_c hI1 hb1.1 hb1.2).1
                have hr2 := jx_rem2 (t := t) (by omega) (by omega)
                show jw_W (js_S n) _ md_127 53 [some (.inr (.inr 13)), some (.inl w), some (.inl t), some (.inl b)] [.inl (ge_f (jm_W σ1 w) (jm_ct σ1 b)), .inr (.inr 13)] σ1 _
                refine jw_W_i2l rfl (by unfold jw_rg; omega) ?_
                refine jw_W_n 1 (i' := 55) (ls' := [some (.inr (.inr 13)), some (.inl w), some (.inl t), some (.inl b)]) (st' := [.inr (.inr 13), .inr (.inl (ge_f (jm_W σ1 w) (jm_ct σ1 b))), .inr (.inr 13)]) rfl ?_
                refine jw_W_gf rfl rfl rfl ?_
                show jw_W (js_S n) _ md_127 56 [some (.inr (.inr 13)), some (.inl w), some (.inl t), some (.inl b)] [.inr (.inr 57), .inr (.inl (ge_f (jm_W σ1 w) (jm_ct σ1 b))), .inr (.inr 13)] σ1 _
                refine jw_W_gf rfl rfl rfl ?_
                show jw_W (js_S n) _ md_127 57 [some (.inr (.inr 13)), some (.inl w), some (.inl t), some (.inl b)] [.inr (.inr 58), .inr (.inl (ge_f (jm_W σ1 w) (jm_ct σ1 b))), .inr (.inr 13)] σ1 _
                refine jw_W_gf rfl rfl rfl ?_
                show jw_W (js_S n) _ md_127 58 [some (.inr (.inr 13)), some (.inl w), some (.inl t), some (.inl b)] [.inr (.inr 62), .inr (.inl (ge_f (jm_W σ1 w) (jm_ct σ1 b))), .inr (.inr 13)] σ1 _
                refine jw_W_n 1 (i' := 59) (ls' := [some (.inr (.inr 13)), some (.inl w), some (.inl t), some (.inl b)]) (st' := [.inl b, .inr (.inr 62), .inr (.inl (ge_f (jm_W σ1 w) (jm_ct σ1 b))), .inr (.inr 13)]) rfl ?_
                refine jw_W_ia rfl rfl (by omega) (by omega) (by omega) ?_
                show jw_W (js_S n) _ md_127 60 [some (.inr (.inr 13)), some (.inl w), some (.inl t), some (.inl b)] [.inl (σ1 62 b), .inr (.inl (ge_f (jm_W σ1 w) (jm_ct σ1 b))), .inr (.inr 13)] σ1 _
                refine jw_W_i2l rfl (by unfold jw_rg; omega) ?_
                refine jw_W_n 2 (i' := 63) (ls' := [some (.inr (.inr 13)), some (.inl w), some (.inl t), some (.inl b)]) (st' := [.inl 2, .inl t, .inr (.inl (σ1 62 b)), .inr (.inl (ge_f (jm_W σ1 w) (jm_ct σ1 b))), .inr (.inr 13)]) rfl ?_
                refine jw_W_irem rfl (by unfold jw_rg; omega) (by omega) ?_
                refine jw_W_call (as := [.inr (.inr 13), .inr (.inl (ge_f (jm_W σ1 w) (jm_ct σ1 b))), .inr (.inl (σ1 62 b)), .inl (jw_rem t 2)]) (rest := []) rfl rfl rfl rfl (Nat.le_of_ble_eq_true rfl) (.inr rfl) (jx_partOf (by unfold jm_bg; omega) (by unfold jm_bg; omega) (by omega) (by unfold jw_rg; omega)) (by omega) ?_ rfl
                rintro r1 σ2 ⟨rfl, hs⟩
                show jw_W (js_S n) _ md_127 65 [some (.inr (.inr 13)), some (.inl w), some (.inl t), some (.inl b)] [.inr (.inl (if jw_rem t 2 = 0 then (jx_fr (ge_f (jm_W σ1 w) (jm_ct σ1 b)) (σ1 62 b)).1 else (jx_fr (ge_f (jm_W σ1 w) (jm_ct σ1 b)) (σ1 62 b)).2))] σ2 _
                refine jw_W_lr rfl ?_
                have hf98 : jx_fy σ1 σ2 := by rw [hs]; exact jx_fy_fs (jx_fy_rf σ1) (by omega)
                refine ⟨_, rfl, jx_fx_tr hf1 (jx_fy_x hf98), (jx_K_y hf98 (jx_KJ_K hK1)).2.2, (jm_ida_me hme1 w t _).mp (.inr ⟨⟨by omega, by omega, by omega⟩, b, ?_, ?_⟩)⟩
                · exact .inr ⟨by omega, hb, hb1.1⟩
                · have ee := jx_fr_of (u := ge_f (jm_W σ1 w) (jm_ct σ1 b)) (l := σ1 62 b) (by omega)
                  rw [ee.1, ee.2, e62]
                  rcases hr2 with e | e
                  · rw [e, if_pos rfl]
                  · rw [e, if_neg (by decide)]
              · have hc6 : ¬ (b ≥ 0) := hc6
                refine jw_W_ld2 (z := (-100000000)) rfl rfl ?_
                refine jw_W_lr rfl ?_
                omega
            · have hc5 : ¬ (t ≥ 2) := hc5
              refine jw_W_n 1 (i' := 22) (ls' := [some (.inr (.inr 13)), some (.inl w), some (.inl t), none]) (st' := [.inr (.inr 13)]) rfl ?_
              refine jw_W_gf rfl rfl rfl ?_
              show jw_W (js_S n) _ md_127 23 [some (.inr (.inr 13)), some (.inl w), some (.inl t), none] [.inr (.inr 57)] σ1 _
              refine jw_W_gf rfl rfl rfl ?_
              show jw_W (js_S n) _ md_127 24 [some (.inr (.inr 13)), some (.inl w), some (.inl t), none] [.inr (.inr 58)] σ1 _
              refine jw_W_n 1 (i' := 25) (ls' := [some (.inr (.inr 13)), some (.inl w), some (.inl t), none]) (st' := [.inr (.inr 13), .inr (.inr 58)]) rfl ?_
              refine jw_W_gf rfl rfl rfl ?_
              show jw_W (js_S n) _ md_127 26 [some (.inr (.inr 13)), some (.inl w), some (.inl t), none] [.inr (.inr ((σ1 13 2).toNat)), .inr (.inr 58)] σ1 _
              rw [hto1]
              refine jw_W_gf rfl hp.2.1 rfl ?_
              show jw_W (js_S n) _ md_127 27 [some (.inr (.inr 13)), some (.inl w), some (.inl t), none] [.inr (.inr (o + 1)), .inr (.inr 58)] σ1 _
              refine jw_W_n 3 (i' := 30) (ls' := [some (.inr (.inr 13)), some (.inl w), some (.inl t), none]) (st' := [.inl (3 * w), .inr (.inr (o + 1)), .inr (.inr 58)]) rfl ?_
              refine jw_W_call (as := [.inr (.inr 58), .inr (.inr (o + 1)), .inl (3 * w)]) (rest := []) rfl rfl rfl rfl (Nat.le_of_ble_eq_true rfl) (.inr rfl) (jx_firstWithMost (f := 3 * w) (jx_pp_58 n) hp.2.2.1 (by omega) (by omega) (by omega) (by rw [(jx_I0_W hI1 (by omega) (show w < σ1 103 4 by omega)).1]; exact (jx_I0_W hI1 (by omega) (show w < σ1 103 4 by omega)).2) (jx_I0_pb hI1)) (by omega) ?_ rfl
              rintro r1 σz ⟨b, rfl, hs, hfb⟩
              rw [hs]
              rw [show σ1 58 0 = σ1 103 56 from hI1x.2.2.2.2.2.2.2.2.2.2.1] at hfb
              have hb := jm_mst_fst (by omega) (jx_I0_W hI1 (show 0 ≤ w by omega) (show w < σ1 103 4 by omega)).1 (fun i i0 i1 => (jx_I0_c hI1 i0 i1).1) hfb
              have hb1 := hb.1
              show jw_W (js_S n) _ md_127 31 [some (.inr (.inr 13)), some (.inl w), some (.inl t), none] [.inl b] σ1 _
              refine jw_W_n 3 (i' := 38) (ls' := [some (.inr (.inr 13)), some (.inl w), some (.inl t), some (.inl b)]) (st' := [.inl b]) rfl ?_
              refine jw_W_if rfl (by unfold jw_rg; omega) (fun hc7 => ?_) (fun hc7 => ?_)
              · have hc7 : b ≥ 0 := hc7
                refine jw_W_n 2 (i' := 43) (ls' := [some (.inr (.inr 13)), some (.inl w), some (.inl t), some (.inl b)]) (st' := [.inr (.inr 13), .inr (.inr 13)]) rfl ?_
                refine jw_W_gf rfl rfl rfl ?_
                show jw_W (js_S n) _ md_127 44 [some (.inr (.inr 13)), some (.inl w), some (.inl t), some (.inl b)] [.inr (.inr 57), .inr (.inr 13)] σ1 _
                refine jw_W_gf rfl rfl rfl ?_
                show jw_W (js_S n) _ md_127 45 [some (.inr (.inr 13)), some (.inl w), some (.inl t), some (.inl b)] [.inr (.inr 58), .inr (.inr 13)] σ1 _
                refine jw_W_n 2 (i' := 47) (ls' := [some (.inr (.inr 13)), some (.inl w), some (.inl t), some (.inl b)]) (st' := [.inr (.inr 13), .inl b, .inr (.inr 58), .inr (.inr 13)]) rfl ?_
                refine jw_W_gf rfl rfl rfl ?_
                show jw_W (js_S n) _ md_127 48 [some (.inr (.inr 13)), some (.inl w), some (.inl t), some (.inl b)] [.inr (.inr ((σ1 13 2).toNat)), .inl b, .inr (.inr 58), .inr (.inr 13)] σ1 _
                rw [hto1]
                refine jw_W_gf rfl hp.2.1 rfl ?_
                show jw_W (js_S n) _ md_127 49 [some (.inr (.inr 13)), some (.inl w), some (.inl t), some (.inl b)] [.inr (.inr (o + 1)), .inl b, .inr (.inr 58), .inr (.inr 13)] σ1 _
                refine jw_W_n 3 (i' := 52) (ls' := [some (.inr (.inr 13)), some (.inl w), some (.inl t), some (.inl b)]) (st' := [.inl (3 * w), .inr (.inr (o + 1)), .inl b, .inr (.inr 58), .inr (.inr 13)]) rfl ?_
                refine jw_W_call (as := [.inr (.inr 58), .inl b, .inr (.inr (o + 1)), .inl (3 * w)]) (rest := [.inr (.inr 13)]) rfl rfl rfl rfl (Nat.le_of_ble_eq_true rfl) (.inr rfl) (jx_value (f := 3 * w) (jx_pp_58 n) hp.2.2.1 (by omega) (by omega) (by omega) (i := b) (by omega) (by omega)) (by omega) ?_ rfl
                rintro r1 σz ⟨rfl, hs⟩
                rw [hs, (jx_I0_W hI1 (show 0 ≤ w by omega) (show w < σ1 103 4 by omega)).1, (jx_I0_c hI1 hb1.1 hb1.2).1]
                have hfb := jm_f_bd (jm_W_sm hPm1 (k := w) (by omega) (by omega)) (hcb1.2 b hb1.1 hb1.2).1
                have hcw := jm_cw hcb1 hb1.1 hb1.2
                have hcw2 : σ1 135 b ≤ 162 := (hcb1.2 b hb1.1 hb1.2).2
                have e62 : σ1 62 b = σ1 135 b := congrArg (fun v : ge_R => v.2.2.2) (jx_I0_c hI1 hb1.1 hb1.2).1
                have hr2 := jx_rem2 (t := t) (by omega) (by omega)
                show jw_W (js_S n) _ md_127 53 [some (.inr (.inr 13)), some (.inl w), some (.inl t), some (.inl b)] [.inl (ge_f (jm_W σ1 w) (jm_ct σ1 b)), .inr (.inr 13)] σ1 _
                refine jw_W_i2l rfl (by unfold jw_rg; omega) ?_
                refine jw_W_n 1 (i' := 55) (ls' := [some (.inr (.inr 13)), some (.inl w), some (.inl t), some (.inl b)]) (st' := [.inr (.inr 13), .inr (.inl (ge_f (jm_W σ1 w) (jm_ct σ1 b))), .inr (.inr 13)]) rfl ?_
                refine jw_W_gf rfl rfl rfl ?_
                show jw_W (js_S n) _ md_127 56 [some (.inr (.inr 13)), some (.inl w), some (.inl t), some (.inl b)] [.inr (.inr 57), .inr (.inl (ge_f (jm_W σ1 w) (jm_ct σ1 b))), .inr (.inr 13)] σ1 _
                refine jw_W_gf rfl rfl rfl ?_
                show jw_W (js_S n) _ md_127 57 [some (.inr (.inr 13)), some (.inl w), some (.inl t), some (.inl b)] [.inr (.inr 58), .inr (.inl (ge_f (jm_W σ1 w) (jm_ct σ1 b))), .inr (.inr 13)] σ1 _
                refine jw_W_gf rfl rfl rfl ?_
                show jw_W (js_S n) _ md_127 58 [some (.inr (.inr 13)), some (.inl w), some (.inl t), some (.inl b)] [.inr (.inr 62), .inr (.inl (ge_f (jm_W σ1 w) (jm_ct σ1 b))), .inr (.inr 13)] σ1 _
                refine jw_W_n 1 (i' := 59) (ls' := [some (.inr (.inr 13)), some (.inl w), some (.inl t), some (.inl b)]) (st' := [.inl b, .inr (.inr 62), .inr (.inl (ge_f (jm_W σ1 w) (jm_ct σ1 b))), .inr (.inr 13)]) rfl ?_
                refine jw_W_ia rfl rfl (by omega) (by omega) (by omega) ?_
                show jw_W (js_S n) _ md_127 60 [some (.inr (.inr 13)), some (.inl w), some (.inl t), some (.inl b)] [.inl (σ1 62 b), .inr (.inl (ge_f (jm_W σ1 w) (jm_ct σ1 b))), .inr (.inr 13)] σ1 _
                refine jw_W_i2l rfl (by unfold jw_rg; omega) ?_
                refine jw_W_n 2 (i' := 63) (ls' := [some (.inr (.inr 13)), some (.inl w), some (.inl t), some (.inl b)]) (st' := [.inl 2, .inl t, .inr (.inl (σ1 62 b)), .inr (.inl (ge_f (jm_W σ1 w) (jm_ct σ1 b))), .inr (.inr 13)]) rfl ?_
                refine jw_W_irem rfl (by unfold jw_rg; omega) (by omega) ?_
                refine jw_W_call (as := [.inr (.inr 13), .inr (.inl (ge_f (jm_W σ1 w) (jm_ct σ1 b))), .inr (.inl (σ1 62 b)), .inl (jw_rem t 2)]) (rest := []) rfl rfl rfl rfl (Nat.le_of_ble_eq_true rfl) (.inr rfl) (jx_partOf (by unfold jm_bg; omega) (by unfold jm_bg; omega) (by omega) (by unfold jw_rg; omega)) (by omega) ?_ rfl
                rintro r1 σ2 ⟨rfl, hs⟩
                show jw_W (js_S n) _ md_127 65 [some (.inr (.inr 13)), some (.inl w), some (.inl t), some (.inl b)] [.inr (.inl (if jw_rem t 2 = 0 then (jx_fr (ge_f (jm_W σ1 w) (jm_ct σ1 b)) (σ1 62 b)).1 else (jx_fr (ge_f (jm_W σ1 w) (jm_ct σ1 b)) (σ1 62 b)).2))] σ2 _
                refine jw_W_lr rfl ?_
                have hf98 : jx_fy σ1 σ2 := by rw [hs]; exact jx_fy_fs (jx_fy_rf σ1) (by omega)
                refine ⟨_, rfl, jx_fx_tr hf1 (jx_fy_x hf98), (jx_K_y hf98 (jx_KJ_K hK1)).2.2, (jm_ida_me hme1 w t _).mp (.inr ⟨⟨by omega, by omega, by omega⟩, b, ?_, ?_⟩)⟩
                · exact .inl ⟨by omega, hb⟩
                · have ee := jx_fr_of (u := ge_f (jm_W σ1 w) (jm_ct σ1 b)) (l := σ1 62 b) (by omega)
                  rw [ee.1, ee.2, e62]
                  rcases hr2 with e | e
                  · rw [e, if_pos rfl]
                  · rw [e, if_neg (by decide)]
              · have hc7 : ¬ (b ≥ 0) := hc7
                refine jw_W_ld2 (z := (-100000000)) rfl rfl ?_
                refine jw_W_lr rfl ?_
                omega
          · have hc4 : (σ 57 0) = 0 := Classical.not_not.mp hc4
            refine jw_W_ld2 (z := (-100000000)) rfl rfl ?_
            refine jw_W_lr rfl ?_
            exact ⟨_, rfl, jx_fx_rf σ, hK.2.2, .inl ⟨rfl, by unfold jm_idc; omega⟩⟩
  · rw [hs]
    show jw_W (js_S n) _ md_127 3 [some (.inr (.inr 13)), some (.inl w), some (.inl t), none] [.inl 0] σ _
    refine jw_W_if rfl (by unfold jw_rg; omega) (fun hc8 => ?_) (fun hc8 => ?_)
    · clear hc8
      refine jw_W_ld2 (z := (-100000000)) rfl rfl ?_
      refine jw_W_lr rfl ?_
      exact ⟨_, rfl, jx_fx_rf σ, hK.2.2, .inl ⟨rfl, by unfold jm_idc; omega⟩⟩
    · exact absurd hc8 (show ¬ ¬ ((0 : Int) = 0) by omega)

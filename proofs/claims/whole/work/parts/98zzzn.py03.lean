/-! ===== the problem's text, purely: what a good text has ===== -/
/-- what was read is a problem -/
def jk_wf (s : jw_H) : Prop := (1 ≤ s 0 2 ∧ s 0 2 ≤ 3) ∧ (0 ≤ s 0 3 ∧ s 0 3 ≤ 3) ∧ (0 ≤ s 0 4 ∧ s 0 4 ≤ 4) ∧ (∀ k, 0 ≤ k → k < s 0 4 → (∀ j, 0 ≤ j → j < 3 → -3 ≤ s 2 (3 * k + j) ∧ s 2 (3 * k + j) ≤ 3 ∧ (s 0 2 ≤ j → s 2 (3 * k + j) = 0)) ∧ (0 ≤ s 3 k ∧ s 3 k ≤ 99) ∧ (0 ≤ s 4 k ∧ s 4 k ≤ 1)) ∧ (∀ j, 0 ≤ j → j < 3 → 1 ≤ s 5 j ∧ s 5 j ≤ 9) ∧ ∀ w, 0 ≤ w → w < s 0 3 → ∀ j, 0 ≤ j → j < 3 → -3 ≤ s 1 (3 * w + j) ∧ s 1 (3 * w + j) ≤ 3 ∧ (s 0 2 ≤ j → s 1 (3 * w + j) = 0)
def jk_rz (q : Int) (R : Int × Int × (Int → Int)) : Prop := R.1 = 0 → ∀ j, q ≤ j → R.2.2 j = 0
section JKW
variable {b : Int → Int} {m q i sg fi : Int} {s : jw_H}
theorem jk_rz_trm {s : Int} {t : Int → Int} (ht : ∀ j, q ≤ j → t j = 0) (i0 : 0 ≤ i) : jk_rz q (jk_trm b m q s t i) := by
  intro h
  obtain ⟨c, k, hc, c1, c3, k0, k1⟩ := jk_cf_ex (jk_h b m i)
  by_cases hl : jk_let (jk_h b m (i + k))
  · by_cases hq : jk_h b m (i + k) - 120 < q
    · by_cases hr : -3 ≤ t (jk_h b m (i + k) - 120) + s * c ∧ t (jk_h b m (i + k) - 120) + s * c ≤ 3
      · rw [jk_trm_0 hc hl hq hr]
        intro j hj
        show (if j = jk_h b m (i + k) - 120 then t j + s * c else t j) = 0
        rw [if_neg (by omega)]
        exact ht j hj
      · have := jk_trm_3 hc hl hq hr
        omega
    · have := jk_trm_7 (s := s) (t := t) hc hl hq
      omega
  · have := jk_trm_1 (q := q) (s := s) (t := t) hc hl
    omega
theorem jk_rz_sg (i0 : 0 ≤ i) : ∀ (f : Nat) {R : Int × Int × (Int → Int)}, jk_rok m i R → jk_rz q R → jk_rz q (jk_sg b m q f R)
  | 0, R, h, hz => hz
  | f + 1, R, h, hz => by
    by_cases hc : R.1 = 0 ∧ (jk_h b m R.2.1 = 43 ∨ jk_h b m R.2.1 = 45)
    · have e : jk_sg b m q (f + 1) R = _ := if_pos hc
      rw [e]
      have hr := h hc.1
      refine jk_rz_sg i0 f (fun hT => ?_) (jk_rz_trm (hz hc.1) (by omega))
      have := jk_rok_trm hr.2 (by omega) hT
      exact ⟨by omega, this.2⟩
    · rw [jk_sg_no hc]
      exact hz
theorem jk_rz_sm (i0 : 0 ≤ i) : jk_rz q (jk_sm b m q i) := by
  unfold jk_sm
  refine jk_rz_sg i0 300 ?_ ?_
  · split
    · intro h
      have := jk_rok_trm (t := fun _ => 0) (fun _ _ _ => by omega) (by omega) h
      exact ⟨by omega, this.2⟩
    · exact jk_rok_trm (t := fun _ => 0) (fun _ _ _ => by omega) i0
  · split
    · exact jk_rz_trm (fun _ _ => rfl) (by omega)
    · exact jk_rz_trm (fun _ _ => rfl) i0
theorem jk_nu_rg (i0 : 0 ≤ i) (h : (jk_nu b m i).1 = 0) : 0 ≤ (jk_nu b m i).2.1 ∧ (jk_nu b m i).2.1 ≤ 99 := by
  have k : (jk_n2 b m i).1 = 0 → 0 ≤ (jk_n2 b m i).2.1 ∧ (jk_n2 b m i).2.1 ≤ 99 := by
    intro hn
    by_cases h1 : jk_dg (jk_h b m i)
    · by_cases h2 : jk_dg (jk_h b m (i + 1))
      · rw [jk_n2_c h1 h2]
        unfold jk_dg at h1 h2
        show 0 ≤ 10 * (jk_h b m i - 48) + (jk_h b m (i + 1) - 48) ∧ 10 * (jk_h b m i - 48) + (jk_h b m (i + 1) - 48) ≤ 99
        omega
      · rw [jk_n2_b h1 h2]
        unfold jk_dg at h1
        show 0 ≤ jk_h b m i - 48 ∧ jk_h b m i - 48 ≤ 99
        omega
    · rw [jk_n2_a h1] at hn
      have hn2 : -1000 * 1 - i = 0 := hn
      omega
  by_cases h1 : (jk_n2 b m i).1 = 0
  · by_cases h2 : jk_dg (jk_h b m (jk_n2 b m i).2.2)
    · rw [jk_nu_2 h1 h2]
      show (0 : Int) ≤ 0 ∧ (0 : Int) ≤ 99
      omega
    · rw [jk_nu_3 h2]
      exact k h1
  · rw [jk_nu_1 h1] at h
    exact absurd h h1
theorem jk_wf_po (hs : jk_wf s) (h3 : s 0 3 = 0) (h4 : s 0 4 = 0) (i0 : 0 ≤ i) (h : jk_po b m s i 0 0 = 0) : jk_wf (jk_po b m s i) := by
  by_cases h1 : 49 ≤ jk_h b m i ∧ jk_h b m i ≤ 51
  · rw [jk_po_2 h1]
    refine ⟨?_, hs.2.1, hs.2.2.1, fun k k0 k1 => ?_, hs.2.2.2.2.1, fun w w0 w1 => ?_⟩
    · show 1 ≤ jk_h b m i - 48 ∧ jk_h b m i - 48 ≤ 3
      omega
    · have : k < s 0 4 := k1
      omega
    · have : w < s 0 3 := w1
      omega
  · rw [jk_po_1 h1] at h
    have h7 : -1000 * 1 - i = 0 := h
    omega
theorem jk_wf_pw (hs : jk_wf s) (h3 : s 0 3 < 3) (hg : sg = 1 ∨ sg = -1) (i0 : 0 ≤ i) (h : jk_pw b m sg s i 0 0 = 0) : jk_wf (jk_pw b m sg s i) := by
  by_cases h1 : (jk_sm b m (s 0 2) i).1 = 0
  · have hr := (jk_rok_sm i0 h1).2
    have hz := jk_rz_sm i0 h1
    rw [jk_pw_2 h1]
    refine ⟨hs.1, ?_, hs.2.2.1, hs.2.2.2.1, hs.2.2.2.2.1, fun w w0 w1 j j0 j1 => ?_⟩
    · show 0 ≤ s 0 3 + 1 ∧ s 0 3 + 1 ≤ 3
      have := hs.2.1
      omega
    · have w2 : w < s 0 3 + 1 := w1
      show -3 ≤ (if 3 * w + j < 3 * s 0 3 then s 1 (3 * w + j) else sg * (jk_sm b m (s 0 2) i).2.2 (3 * w + j - 3 * s 0 3)) ∧ (if 3 * w + j < 3 * s 0 3 then s 1 (3 * w + j) else sg * (jk_sm b m (s 0 2) i).2.2 (3 * w + j - 3 * s 0 3)) ≤ 3 ∧ (s 0 2 ≤ j → (if 3 * w + j < 3 * s 0 3 then s 1 (3 * w + j) else sg * (jk_sm b m (s 0 2) i).2.2 (3 * w + j - 3 * s 0 3)) = 0)
      by_cases hw : w < s 0 3
      · rw [if_pos (by omega)]
        exact hs.2.2.2.2.2 w w0 hw j j0 j1
      · rw [if_neg (by omega), show 3 * w + j - 3 * s 0 3 = j by omega]
        have h5 := hr j j0 j1
        have h6 := hz j
        rcases hg with e | e
        · rw [e, Int.one_mul]
          exact ⟨h5.1, h5.2, h6⟩
        · rw [e, Int.neg_one_mul]
          exact ⟨by omega, by omega, fun hq => by rw [h6 hq]; rfl⟩
  · rw [jk_pw_1 h1] at h
    exact absurd h h1
theorem jk_wf_pk (hs : jk_wf s) (h4 : s 0 4 < 4) (i0 : 0 ≤ i) (h : jk_pk b m s i 0 0 = 0) : jk_wf (jk_pk b m s i) := by
  by_cases h1 : (jk_sm b m (s 0 2) i).1 = 0
  · have hrk := jk_rok_sm (m := m) i0 h1
    have hr := hrk.2
    have hz := jk_rz_sm i0 h1
    by_cases h2 : jk_h b m (jk_sm b m (s 0 2) i).2.1 = 60 ∨ jk_h b m (jk_sm b m (s 0 2) i).2.1 = 62
    · by_cases h3 : (jk_nu b m ((jk_sm b m (s 0 2) i).2.1 + 1)).1 = 0
      · have hn := jk_nu_rg (by omega) h3
        rw [jk_pk_4 h1 h2 h3]
        refine ⟨hs.1, hs.2.1, ?_, fun k k0 k1 => ?_, hs.2.2.2.2.1, hs.2.2.2.2.2⟩
        · show 0 ≤ s 0 4 + 1 ∧ s 0 4 + 1 ≤ 4
          have := hs.2.2.1
          omega
        · have k2 : k < s 0 4 + 1 := k1
          show (∀ j, 0 ≤ j → j < 3 → -3 ≤ (if 3 * k + j < 3 * s 0 4 then s 2 (3 * k + j) else (jk_sm b m (s 0 2) i).2.2 (3 * k + j - 3 * s 0 4)) ∧ (if 3 * k + j < 3 * s 0 4 then s 2 (3 * k + j) else (jk_sm b m (s 0 2) i).2.2 (3 * k + j - 3 * s 0 4)) ≤ 3 ∧ (s 0 2 ≤ j → (if 3 * k + j < 3 * s 0 4 then s 2 (3 * k + j) else (jk_sm b m (s 0 2) i).2.2 (3 * k + j - 3 * s 0 4)) = 0)) ∧ (0 ≤ (if k = s 0 4 then (jk_nu b m ((jk_sm b m (s 0 2) i).2.1 + 1)).2.1 else s 3 k) ∧ (if k = s 0 4 then (jk_nu b m ((jk_sm b m (s 0 2) i).2.1 + 1)).2.1 else s 3 k) ≤ 99) ∧ (0 ≤ (if k = s 0 4 then jk_h b m (jk_sm b m (s 0 2) i).2.1 / 2 - 30 else s 4 k) ∧ (if k = s 0 4 then jk_h b m (jk_sm b m (s 0 2) i).2.1 / 2 - 30 else s 4 k) ≤ 1)
          by_cases hk : k < s 0 4
          · rw [if_neg (show ¬ (k = s 0 4) by omega), if_neg (show ¬ (k = s 0 4) by omega)]
            have hl := hs.2.2.2.1 k k0 hk
            refine ⟨fun j j0 j1 => ?_, hl.2.1, hl.2.2⟩
            rw [if_pos (by omega)]
            exact hl.1 j j0 j1
          · rw [if_pos (show k = s 0 4 by omega), if_pos (show k = s 0 4 by omega)]
            refine ⟨fun j j0 j1 => ?_, hn, by omega⟩
            rw [if_neg (by omega), show 3 * k + j - 3 * s 0 4 = j by omega]
            exact ⟨(hr j j0 j1).1, (hr j j0 j1).2, hz j⟩
      · rw [jk_pk_3 h1 h2 h3] at h
        exact absurd h h3
    · rw [jk_pk_2 h1 h2] at h
      have h3 : -1000 * 1 - (jk_sm b m (s 0 2) i).2.1 = 0 := h
      have := (jk_rok_sm (m := m) i0 h1).1
      omega
  · rw [jk_pk_1 h1] at h
    exact absurd h h1
theorem jk_wf_pbx (hs : jk_wf s) (i0 : 0 ≤ i) (h : jk_pbx b m s i 0 0 = 0) : jk_wf (jk_pbx b m s i) := by
  by_cases h1 : jk_let (jk_h b m i)
  · by_cases h2 : jk_h b m i - 120 < s 0 2
    · by_cases h3 : jw_and (s 0 5) (jw_shl 1 (jk_h b m i - 120)) = 0
      · by_cases h4 : jk_h b m (i + 1) = 60
        · by_cases h5 : (jk_nu b m (i + 2)).1 = 0
          · by_cases h6 : 1 ≤ (jk_nu b m (i + 2)).2.1 ∧ (jk_nu b m (i + 2)).2.1 ≤ 9
            · rw [jk_pbx_7 h1 h2 h3 h4 h5 h6]
              refine ⟨hs.1, hs.2.1, hs.2.2.1, hs.2.2.2.1, fun j j0 j1 => ?_, hs.2.2.2.2.2⟩
              show 1 ≤ (if j = jk_h b m i - 120 then (jk_nu b m (i + 2)).2.1 else s 5 j) ∧ (if j = jk_h b m i - 120 then (jk_nu b m (i + 2)).2.1 else s 5 j) ≤ 9
              by_cases hj : j = jk_h b m i - 120
              · rw [if_pos hj]
                exact h6
              · rw [if_neg hj]
                exact hs.2.2.2.2.1 j j0 j1
            · rw [jk_pbx_6 h1 h2 h3 h4 h5 h6] at h
              have h7 : -1000 * 3 - (i + 2) = 0 := h
              omega
          · rw [jk_pbx_5 h1 h2 h3 h4 h5] at h
            exact absurd h h5
        · rw [jk_pbx_4 h1 h2 h3 h4] at h
          have h7 : -1000 * 1 - (i + 1) = 0 := h
          omega
      · rw [jk_pbx_3 h1 h2 h3] at h
        have h7 : -1000 * 6 - i = 0 := h
        omega
    · rw [jk_pbx_2 h1 h2] at h
      have h7 : -1000 * 7 - i = 0 := h
      omega
  · rw [jk_pbx_1 h1] at h
    have h7 : -1000 * 1 - i = 0 := h
    omega
theorem jk_wf_pl (hs : jk_wf s) (hf : fi = 0 ∨ (fi = 1 ∧ s 0 3 = 0 ∧ s 0 4 = 0)) (i0 : 0 ≤ i) (im : i ≤ m) (h : jk_pl b m fi s i 0 0 = 0) : jk_wf (jk_pl b m fi s i) := by
  obtain ⟨e, he⟩ : ∃ e, jk_we b m 300 i = e := ⟨_, rfl⟩
  obtain ⟨c, hc⟩ : ∃ c, jk_wk b i e = c := ⟨_, rfl⟩
  have hw := jk_we_in (b := b) (m := m) (fun i hi => jk_h_out hi) 300 im
  have hc5 := jk_wk_rg b i e
  rw [hc] at hc5
  rw [he] at hw
  by_cases h1 : c = 0 ∨ ¬ (c = 1 ↔ fi = 1)
  · rw [jk_pl_1 he hc h1] at h
    have h7 : -1000 * 1 - i = 0 := h
    omega
  by_cases h2 : ((c = 2 ∨ c = 3) ∧ 3 ≤ s 0 3) ∨ (c = 4 ∧ 4 ≤ s 0 4)
  · rw [jk_pl_2 he hc h1 h2] at h
    have h7 : -1000 * 4 - i = 0 := h
    omega
  by_cases h3 : jk_h b m e = 58
  · rw [jk_pl_4 he hc h1 h2 h3] at h ⊢
    by_cases c1 : c = 1
    · rw [if_pos c1] at h ⊢
      exact jk_wf_po hs (by omega) (by omega) (by omega) h
    rw [if_neg c1] at h ⊢
    by_cases c2 : c = 4
    · rw [if_pos c2] at h ⊢
      exact jk_wf_pk hs (by omega) (by omega) h
    rw [if_neg c2] at h ⊢
    by_cases c3 : c = 5
    · rw [if_pos c3] at h ⊢
      exact jk_wf_pbx hs (by omega) h
    rw [if_neg c3] at h ⊢
    exact jk_wf_pw hs (by omega) (by split <;> omega) (by omega) h
  · rw [jk_pl_3 he hc h1 h2 h3] at h
    have h7 : -1000 * 1 - e = 0 := h
    omega
theorem jk_wf_pr : ∀ (f : Nat) {s : jw_H}, (s 0 0 = 0 → jk_wf s ∧ 0 ≤ s 0 1) → jk_pr b m f s 0 0 = 0 → jk_wf (jk_pr b m f s)
  | 0, s, hs, h => (hs h).1
  | f + 1, s, hs, h => by
    by_cases hc : s 0 0 = 0 ∧ s 0 1 < m
    · obtain ⟨hw, h01⟩ := hs hc.1
      by_cases h59 : jk_h b m (s 0 1) = 59
      · rw [jk_pr_go hc h59 f] at h ⊢
        exact jk_wf_pr f (fun hz => ⟨jk_wf_pl hw (.inl rfl) (by omega) (by omega) hz, by have := jk_pl_gt (by omega) (by omega) hz; omega⟩) h
      · rw [jk_pr_bad hc h59 f] at h
        have h7 : -1000 * 1 - s 0 1 = 0 := h
        omega
    · rw [jk_pr_no hc (f + 1)] at h ⊢
      exact (hs h).1
theorem jk_wf_s0 : jk_wf jk_s0 := by
  refine ⟨by show (1 : Int) ≤ 1 ∧ (1 : Int) ≤ 3; omega, by show (0 : Int) ≤ 0 ∧ (0 : Int) ≤ 3; omega, by show (0 : Int) ≤ 0 ∧ (0 : Int) ≤ 4; omega, fun k k0 k1 => ?_, fun j _ _ => by show (1 : Int) ≤ 9 ∧ (9 : Int) ≤ 9; omega, fun w w0 w1 => ?_⟩
  · have : k < 0 := k1
    omega
  · have : w < 0 := w1
    omega
theorem jk_wf_ptx (m0 : 0 ≤ m) (h : jk_ptx b m 0 0 = 0) : jk_wf (jk_ptx b m) := jk_wf_pr 300 (fun hz => ⟨jk_wf_pl jk_wf_s0 (.inr ⟨rfl, rfl, rfl⟩) (by omega) m0 hz, by have := jk_pl_gt (b := b) (m := m) (fi := 1) (s := jk_s0) (i := 0) (by omega) m0 hz; omega⟩) h
/-- the reference begins with as many quantities as it had -/
def jk_s1 (q : Int) : jw_H := jk_mk 0 0 q 0 0 0 (fun _ => 0) (fun _ => 0) (fun _ => 0) (fun _ => 0) (fun _ => 9)
theorem jk_pl_s1 (m0 : 0 ≤ m) : jk_pl b m 1 (jk_s1 q) 0 = jk_pl b m 1 jk_s0 0 := by
  obtain ⟨e, he⟩ : ∃ e, jk_we b m 300 0 = e := ⟨_, rfl⟩
  obtain ⟨c, hc⟩ : ∃ c, jk_wk b 0 e = c := ⟨_, rfl⟩
  by_cases h1 : c = 0 ∨ ¬ (c = 1 ↔ (1 : Int) = 1)
  · rw [jk_pl_1 he hc h1, jk_pl_1 he hc h1]
  have c1 : c = 1 := by omega
  by_cases h3 : jk_h b m e = 58
  · rw [jk_pl_4 he hc h1 (by omega) h3, jk_pl_4 he hc h1 (by omega) h3, if_pos c1, if_pos c1]
    by_cases h4 : 49 ≤ jk_h b m (e + 1) ∧ jk_h b m (e + 1) ≤ 51
    · rw [jk_po_2 h4, jk_po_2 h4]
      rfl
    · rw [jk_po_1 h4, jk_po_1 h4]
  · rw [jk_pl_3 he hc h1 (by omega) h3, jk_pl_3 he hc h1 (by omega) h3]
end JKW

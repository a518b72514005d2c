/-! ===== what each lower number goes into; sums over it ===== -/
def jn_un (r : ge_R) : Prop := ((r.1 = 1 ∨ r.1 = -1) ∧ r.2.1 = 0 ∧ r.2.2.1 = 0) ∨ (r.1 = 0 ∧ (r.2.1 = 1 ∨ r.2.1 = -1) ∧ r.2.2.1 = 0) ∨ (r.1 = 0 ∧ r.2.1 = 0 ∧ (r.2.2.1 = 1 ∨ r.2.2.1 = -1))
theorem jn_det_un {r q t : ge_R} (hr : jn_un r) (hq : ge_sm q) (ht : ge_sm t) : -18 ≤ ge_det r q t ∧ ge_det r q t ≤ 18 := by
  unfold ge_sm at hq ht
  have e : ge_det r q t = r.1 * (t.2.2.1 * q.2.1 - t.2.1 * q.2.2.1) + r.2.1 * (t.1 * q.2.2.1 - t.2.2.1 * q.1) + r.2.2.1 * (t.2.1 * q.1 - t.1 * q.2.1) := by
    unfold ge_det ge_n ge_x
    grind
  have a1 := jx_mm (a := t.2.2.1) (x := q.2.1) (A := 3) (X := 3) (by omega) (by omega)
  have a2 := jx_mm (a := t.2.1) (x := q.2.2.1) (A := 3) (X := 3) (by omega) (by omega)
  have a3 := jx_mm (a := t.1) (x := q.2.2.1) (A := 3) (X := 3) (by omega) (by omega)
  have a4 := jx_mm (a := t.2.2.1) (x := q.1) (A := 3) (X := 3) (by omega) (by omega)
  have a5 := jx_mm (a := t.2.1) (x := q.1) (A := 3) (X := 3) (by omega) (by omega)
  have a6 := jx_mm (a := t.1) (x := q.2.1) (A := 3) (X := 3) (by omega) (by omega)
  rw [e]
  rcases hr with ⟨h1 | h1, h2, h3⟩ | ⟨h1, h2 | h2, h3⟩ | ⟨h1, h2, h3 | h3⟩ <;> rw [h1, h2, h3] <;> omega
theorem jn_dP1 (r q t : ge_R) : ge_det q t r = ge_det r q t := ge_det_rot r q t
theorem jn_dP2 (r q t : ge_R) : ge_det t r q = ge_det r q t := by
  unfold ge_det ge_n ge_x
  grind
theorem jn_dN1 (r q t : ge_R) : ge_det q r t = -ge_det r q t := by
  unfold ge_det ge_n ge_x
  grind
theorem jn_dN2 (r q t : ge_R) : ge_det r t q = -ge_det r q t := by
  unfold ge_det ge_n ge_x
  grind
theorem jn_dN3 (r q t : ge_R) : ge_det t q r = -ge_det r q t := by
  unfold ge_det ge_n ge_x
  grind
theorem jn_dD1 (r t : ge_R) : ge_det r r t = 0 := by
  unfold ge_det ge_n ge_x
  grind
theorem jn_dD2 (r t : ge_R) : ge_det r t r = 0 := by
  unfold ge_det ge_n ge_x
  grind
theorem jn_dD3 (r t : ge_R) : ge_det t r r = 0 := by
  unfold ge_det ge_n ge_x
  grind
/-- what three keeps come to, if there are so many and it is not nothing -/
def jn_nz (σ : jw_H) (a b c : Int) : Int := if c < σ 103 5 ∧ ge_det (jm_kr σ a 0) (jm_kr σ b 0) (jm_kr σ c 0) ≠ 0 then (if 0 ≤ ge_det (jm_kr σ a 0) (jm_kr σ b 0) (jm_kr σ c 0) then ge_det (jm_kr σ a 0) (jm_kr σ b 0) (jm_kr σ c 0) else -ge_det (jm_kr σ a 0) (jm_kr σ b 0) (jm_kr σ c 0)) else 1
def jn_K3 (σ : jw_H) : Int := jn_nz σ 0 1 2 * (jn_nz σ 0 1 3 * (jn_nz σ 0 2 3 * (jn_nz σ 1 2 3 * 12252240)))
theorem jn_nz_bd {σ : jw_H} (hP : jm_Pb σ) {a b c : Int} (a0 : 0 ≤ a) (ab : a < b) (bc : b < c) : 0 < jn_nz σ a b c ∧ jn_nz σ a b c ≤ 162 := by
  unfold jn_nz
  split
  · rename_i h
    have k1 := (jm_kr_ok hP (m := 0) a0 (show a < σ 103 5 by omega) (by omega) (by omega)).1
    have k2 := (jm_kr_ok hP (m := 0) (show 0 ≤ b by omega) (show b < σ 103 5 by omega) (by omega) (by omega)).1
    have k3 := (jm_kr_ok hP (m := 0) (show 0 ≤ c by omega) h.1 (by omega) (by omega)).1
    have hd := ge_det_sm k1 k2 k3
    have h2 := h.2
    split <;> omega
  · omega
theorem jn_nz_dvd {σ : jw_H} {a b c w : Int} (hc : c < σ 103 5) (hn : ge_det (jm_kr σ a 0) (jm_kr σ b 0) (jm_kr σ c 0) ≠ 0) (hw : w ∣ ge_det (jm_kr σ a 0) (jm_kr σ b 0) (jm_kr σ c 0)) : w ∣ jn_nz σ a b c := by
  unfold jn_nz
  rw [if_pos ⟨hc, hn⟩]
  split
  · exact hw
  · exact Int.dvd_neg.mpr hw
theorem jn_18 {w : Int} (w0 : 0 < w) (w1 : w ≤ 18) : w ∣ 12252240 := by
  rcases (show w = 1 ∨ w = 2 ∨ w = 3 ∨ w = 4 ∨ w = 5 ∨ w = 6 ∨ w = 7 ∨ w = 8 ∨ w = 9 ∨ w = 10 ∨ w = 11 ∨ w = 12 ∨ w = 13 ∨ w = 14 ∨ w = 15 ∨ w = 16 ∨ w = 17 ∨ w = 18 by omega) with rfl | rfl | rfl | rfl | rfl | rfl | rfl | rfl | rfl | rfl | rfl | rfl | rfl | rfl | rfl | rfl | rfl | rfl <;> decide
theorem jn_K3_bd {σ : jw_H} (hP : jm_Pb σ) : 0 < jn_K3 σ ∧ jn_K3 σ ≤ 8500000000000000 := by
  have h1 := jn_nz_bd hP (a := 0) (b := 1) (c := 2) (by omega) (by omega) (by omega)
  have h2 := jn_nz_bd hP (a := 0) (b := 1) (c := 3) (by omega) (by omega) (by omega)
  have h3 := jn_nz_bd hP (a := 0) (b := 2) (c := 3) (by omega) (by omega) (by omega)
  have h4 := jn_nz_bd hP (a := 1) (b := 2) (c := 3) (by omega) (by omega) (by omega)
  unfold jn_K3
  generalize jn_nz σ 0 1 2 = x at *
  generalize jn_nz σ 0 1 3 = y at *
  generalize jn_nz σ 0 2 3 = z at *
  generalize jn_nz σ 1 2 3 = v at *
  have p1 := jn_mb (a := v) (b := 12252240) (A := 162) (B := 12252240) (by omega) (by omega)
  have p2 := jn_mb (a := z) (b := v * 12252240) (A := 162) (B := 1984862880) (by omega) (by omega)
  have p3 := jn_mb (a := y) (b := z * (v * 12252240)) (A := 162) (B := 321547786560) (by omega) (by omega)
  have p4 := jn_mb (a := x) (b := y * (z * (v * 12252240))) (A := 162) (B := 52090741422720) (by omega) (by omega)
  have q1 : 0 < v * 12252240 := by omega
  have q2 := Int.mul_pos h3.1 q1
  have q3 := Int.mul_pos h2.1 q2
  have q4 := Int.mul_pos h1.1 q3
  omega
theorem jn_K3_dvd {σ : jw_H} {w a b c : Int} (hk : σ 103 5 ≤ 4) (a0 : 0 ≤ a ∧ a < σ 103 5) (b0 : 0 ≤ b ∧ b < σ 103 5) (c0 : 0 ≤ c ∧ c < σ 103 5) (hn : ge_det (jm_kr σ a 0) (jm_kr σ b 0) (jm_kr σ c 0) ≠ 0) (hw : w ∣ ge_det (jm_kr σ a 0) (jm_kr σ b 0) (jm_kr σ c 0)) : w ∣ jn_K3 σ := by
  have h012 : (2 : Int) < σ 103 5 → ge_det (jm_kr σ 0 0) (jm_kr σ 1 0) (jm_kr σ 2 0) ≠ 0 → w ∣ ge_det (jm_kr σ 0 0) (jm_kr σ 1 0) (jm_kr σ 2 0) → w ∣ jn_K3 σ := fun h1 h2 h3 => Int.dvd_mul_of_dvd_left (jn_nz_dvd h1 h2 h3)
  have h013 : (3 : Int) < σ 103 5 → ge_det (jm_kr σ 0 0) (jm_kr σ 1 0) (jm_kr σ 3 0) ≠ 0 → w ∣ ge_det (jm_kr σ 0 0) (jm_kr σ 1 0) (jm_kr σ 3 0) → w ∣ jn_K3 σ := fun h1 h2 h3 => Int.dvd_mul_of_dvd_right (Int.dvd_mul_of_dvd_left (jn_nz_dvd h1 h2 h3))
  have h023 : (3 : Int) < σ 103 5 → ge_det (jm_kr σ 0 0) (jm_kr σ 2 0) (jm_kr σ 3 0) ≠ 0 → w ∣ ge_det (jm_kr σ 0 0) (jm_kr σ 2 0) (jm_kr σ 3 0) → w ∣ jn_K3 σ := fun h1 h2 h3 => Int.dvd_mul_of_dvd_right (Int.dvd_mul_of_dvd_right (Int.dvd_mul_of_dvd_left (jn_nz_dvd h1 h2 h3)))
  have h123 : (3 : Int) < σ 103 5 → ge_det (jm_kr σ 1 0) (jm_kr σ 2 0) (jm_kr σ 3 0) ≠ 0 → w ∣ ge_det (jm_kr σ 1 0) (jm_kr σ 2 0) (jm_kr σ 3 0) → w ∣ jn_K3 σ := fun h1 h2 h3 => Int.dvd_mul_of_dvd_right (Int.dvd_mul_of_dvd_right (Int.dvd_mul_of_dvd_right (Int.dvd_mul_of_dvd_left (jn_nz_dvd h1 h2 h3))))
  rcases (show a = 0 ∨ a = 1 ∨ a = 2 ∨ a = 3 by omega) with rfl | rfl | rfl | rfl <;> rcases (show b = 0 ∨ b = 1 ∨ b = 2 ∨ b = 3 by omega) with rfl | rfl | rfl | rfl <;> rcases (show c = 0 ∨ c = 1 ∨ c = 2 ∨ c = 3 by omega) with rfl | rfl | rfl | rfl
  · exact absurd (jn_dD1 _ _) hn
  · exact absurd (jn_dD1 _ _) hn
  · exact absurd (jn_dD1 _ _) hn
  · exact absurd (jn_dD1 _ _) hn
  · exact absurd (jn_dD2 _ _) hn
  · exact absurd (jn_dD3 _ _) hn
  · exact h012 (by omega) hn hw
  · exact h013 (by omega) hn hw
  · exact absurd (jn_dD2 _ _) hn
  · rw [jn_dN2 (jm_kr σ 0 0) (jm_kr σ 1 0) (jm_kr σ 2 0)] at hn hw
    exact h012 (by omega) (fun hh => hn (by omega)) (Int.dvd_neg.mp hw)
  · exact absurd (jn_dD3 _ _) hn
  · exact h023 (by omega) hn hw
  · exact absurd (jn_dD2 _ _) hn
  · rw [jn_dN2 (jm_kr σ 0 0) (jm_kr σ 1 0) (jm_kr σ 3 0)] at hn hw
    exact h013 (by omega) (fun hh => hn (by omega)) (Int.dvd_neg.mp hw)
  · rw [jn_dN2 (jm_kr σ 0 0) (jm_kr σ 2 0) (jm_kr σ 3 0)] at hn hw
    exact h023 (by omega) (fun hh => hn (by omega)) (Int.dvd_neg.mp hw)
  · exact absurd (jn_dD3 _ _) hn
  · exact absurd (jn_dD3 _ _) hn
  · exact absurd (jn_dD2 _ _) hn
  · rw [jn_dN1 (jm_kr σ 0 0) (jm_kr σ 1 0) (jm_kr σ 2 0)] at hn hw
    exact h012 (by omega) (fun hh => hn (by omega)) (Int.dvd_neg.mp hw)
  · rw [jn_dN1 (jm_kr σ 0 0) (jm_kr σ 1 0) (jm_kr σ 3 0)] at hn hw
    exact h013 (by omega) (fun hh => hn (by omega)) (Int.dvd_neg.mp hw)
  · exact absurd (jn_dD1 _ _) hn
  · exact absurd (jn_dD1 _ _) hn
  · exact absurd (jn_dD1 _ _) hn
  · exact absurd (jn_dD1 _ _) hn
  · rw [jn_dP1 (jm_kr σ 0 0) (jm_kr σ 1 0) (jm_kr σ 2 0)] at hn hw
    exact h012 (by omega) hn hw
  · exact absurd (jn_dD2 _ _) hn
  · exact absurd (jn_dD3 _ _) hn
  · exact h123 (by omega) hn hw
  · rw [jn_dP1 (jm_kr σ 0 0) (jm_kr σ 1 0) (jm_kr σ 3 0)] at hn hw
    exact h013 (by omega) hn hw
  · exact absurd (jn_dD2 _ _) hn
  · rw [jn_dN2 (jm_kr σ 1 0) (jm_kr σ 2 0) (jm_kr σ 3 0)] at hn hw
    exact h123 (by omega) (fun hh => hn (by omega)) (Int.dvd_neg.mp hw)
  · exact absurd (jn_dD3 _ _) hn
  · exact absurd (jn_dD3 _ _) hn
  · rw [jn_dP2 (jm_kr σ 0 0) (jm_kr σ 1 0) (jm_kr σ 2 0)] at hn hw
    exact h012 (by omega) hn hw
  · exact absurd (jn_dD2 _ _) hn
  · rw [jn_dN1 (jm_kr σ 0 0) (jm_kr σ 2 0) (jm_kr σ 3 0)] at hn hw
    exact h023 (by omega) (fun hh => hn (by omega)) (Int.dvd_neg.mp hw)
  · rw [jn_dN3 (jm_kr σ 0 0) (jm_kr σ 1 0) (jm_kr σ 2 0)] at hn hw
    exact h012 (by omega) (fun hh => hn (by omega)) (Int.dvd_neg.mp hw)
  · exact absurd (jn_dD3 _ _) hn
  · exact absurd (jn_dD2 _ _) hn
  · rw [jn_dN1 (jm_kr σ 1 0) (jm_kr σ 2 0) (jm_kr σ 3 0)] at hn hw
    exact h123 (by omega) (fun hh => hn (by omega)) (Int.dvd_neg.mp hw)
  · exact absurd (jn_dD1 _ _) hn
  · exact absurd (jn_dD1 _ _) hn
  · exact absurd (jn_dD1 _ _) hn
  · exact absurd (jn_dD1 _ _) hn
  · rw [jn_dP1 (jm_kr σ 0 0) (jm_kr σ 2 0) (jm_kr σ 3 0)] at hn hw
    exact h023 (by omega) hn hw
  · rw [jn_dP1 (jm_kr σ 1 0) (jm_kr σ 2 0) (jm_kr σ 3 0)] at hn hw
    exact h123 (by omega) hn hw
  · exact absurd (jn_dD2 _ _) hn
  · exact absurd (jn_dD3 _ _) hn
  · exact absurd (jn_dD3 _ _) hn
  · rw [jn_dP2 (jm_kr σ 0 0) (jm_kr σ 1 0) (jm_kr σ 3 0)] at hn hw
    exact h013 (by omega) hn hw
  · rw [jn_dP2 (jm_kr σ 0 0) (jm_kr σ 2 0) (jm_kr σ 3 0)] at hn hw
    exact h023 (by omega) hn hw
  · exact absurd (jn_dD2 _ _) hn
  · rw [jn_dN3 (jm_kr σ 0 0) (jm_kr σ 1 0) (jm_kr σ 3 0)] at hn hw
    exact h013 (by omega) (fun hh => hn (by omega)) (Int.dvd_neg.mp hw)
  · exact absurd (jn_dD3 _ _) hn
  · rw [jn_dP2 (jm_kr σ 1 0) (jm_kr σ 2 0) (jm_kr σ 3 0)] at hn hw
    exact h123 (by omega) hn hw
  · exact absurd (jn_dD2 _ _) hn
  · rw [jn_dN3 (jm_kr σ 0 0) (jm_kr σ 2 0) (jm_kr σ 3 0)] at hn hw
    exact h023 (by omega) (fun hh => hn (by omega)) (Int.dvd_neg.mp hw)
  · rw [jn_dN3 (jm_kr σ 1 0) (jm_kr σ 2 0) (jm_kr σ 3 0)] at hn hw
    exact h123 (by omega) (fun hh => hn (by omega)) (Int.dvd_neg.mp hw)
  · exact absurd (jn_dD3 _ _) hn
  · exact absurd (jn_dD2 _ _) hn
  · exact absurd (jn_dD1 _ _) hn
  · exact absurd (jn_dD1 _ _) hn
  · exact absurd (jn_dD1 _ _) hn
  · exact absurd (jn_dD1 _ _) hn
theorem jn_row_kind {σ : jw_H} (hP : jm_Pb σ) {r : ge_R} (hr : r ∈ jm_R σ) : (∃ k, (0 ≤ k ∧ k < σ 103 5) ∧ r = jm_kr σ k 0) ∨ jn_un r := by
  have hq := hP.1
  have hk := hP.2.2.1
  unfold jm_R jm_RR at hr
  rcases List.mem_append.mp hr with hr | hr
  · obtain ⟨⟨b, r'⟩, hz, rfl⟩ := List.mem_map.mp hr
    rcases jm_bk_mem.mp hz with ⟨h1, h2, h3⟩ | h1
    · left
      refine ⟨(b : Int), by omega, ?_⟩
      rw [if_neg (by omega)] at h3
      exact h3
    · right
      obtain ⟨i, hi, ⟨-, h2⟩ | ⟨-, h2⟩⟩ := jm_be_mem.mp h1
      · rw [h2]
        rcases (show i = 0 ∨ i = 1 ∨ i = 2 by omega) with rfl | rfl | rfl
        · exact .inl ⟨.inr rfl, rfl, rfl⟩
        · exact .inr (.inl ⟨rfl, .inr rfl, rfl⟩)
        · exact .inr (.inr ⟨rfl, rfl, .inr rfl⟩)
      · rw [h2]
        rcases (show i = 0 ∨ i = 1 ∨ i = 2 by omega) with rfl | rfl | rfl
        · exact .inl ⟨.inl rfl, rfl, rfl⟩
        · exact .inr (.inl ⟨rfl, .inl rfl, rfl⟩)
        · exact .inr (.inr ⟨rfl, rfl, .inl rfl⟩)
  · right
    unfold jm_vr at hr
    rcases List.mem_append.mp hr with hr | hr
    · split at hr
      · rcases List.mem_cons.mp hr with rfl | hr
        · exact .inr (.inr ⟨rfl, rfl, .inl rfl⟩)
        · rcases List.mem_cons.mp hr with rfl | hr
          · exact .inr (.inr ⟨rfl, rfl, .inr rfl⟩)
          · cases hr
      · cases hr
    · split at hr
      · rcases List.mem_cons.mp hr with rfl | hr
        · exact .inr (.inl ⟨rfl, .inl rfl, rfl⟩)
        · rcases List.mem_cons.mp hr with rfl | hr
          · exact .inr (.inl ⟨rfl, .inr rfl, rfl⟩)
          · cases hr
      · cases hr
theorem jn_un_sm {r : ge_R} (h : jn_un r) : ge_sm r := by
  unfold ge_sm
  rcases h with ⟨h1 | h1, h2, h3⟩ | ⟨h1, h2 | h2, h3⟩ | ⟨h1, h2, h3 | h3⟩ <;> omega
/-- the lower number of a corner goes into it -/
theorem jn_w_K3 {σ : jw_H} (hP : jm_Pb σ) {v : ge_R} (hv : ge_V (jm_R σ) v) (hg : ge_g v = 1) : v.2.2.2 ∣ jn_K3 σ := by
  have hk := hP.2.2.1
  have w0 := hv.1.1
  obtain ⟨-, r, hr, q, hq, t, ht, sr, sq, st, hd⟩ := hv
  have hw := ge_low hg sr sq st
  have hsm : ∀ x, x ∈ jm_R σ → ge_sm x := fun x hx => by
    rcases jn_row_kind hP hx with ⟨k, k0, rfl⟩ | h
    · exact (jm_kr_ok hP k0.1 k0.2 (by omega) (by omega)).1
    · exact jn_un_sm h
  have small : -18 ≤ ge_det r q t ∧ ge_det r q t ≤ 18 → v.2.2.2 ∣ jn_K3 σ := fun h => by
    have hle : v.2.2.2 ≤ 18 := by
      by_cases h0 : 0 < ge_det r q t
      · have := Int.le_of_dvd h0 hw
        omega
      · have := Int.le_of_dvd (show 0 < -ge_det r q t by omega) (Int.dvd_neg.mpr hw)
        omega
    exact Int.dvd_mul_of_dvd_right (Int.dvd_mul_of_dvd_right (Int.dvd_mul_of_dvd_right (Int.dvd_mul_of_dvd_right (jn_18 w0 hle))))
  rcases jn_row_kind hP hr with ⟨a, a0, ea⟩ | ha
  · rcases jn_row_kind hP hq with ⟨b, b0, eb⟩ | hb
    · rcases jn_row_kind hP ht with ⟨c, c0, ec⟩ | hc
      · rw [ea, eb, ec] at hw hd
        exact jn_K3_dvd hk.2 a0 b0 c0 hd hw
      · exact small (by rw [← jn_dP2 r q t]; exact jn_det_un hc (hsm r hr) (hsm q hq))
    · exact small (by rw [← jn_dP1 r q t]; exact jn_det_un hb (hsm t ht) (hsm r hr))
  · exact small (jn_det_un ha (hsm q hq) (hsm t ht))

/-! ===== the class: its bounds are the rows of the body ===== -/
theorem jx_rn_keep {μ : jw_H} {k m : Int} (hP : jm_Pb μ) (k0 : 0 ≤ k) (k1 : k < μ 103 5) : jx_rn μ k (jm_if μ k + m) = jm_kr μ k m := by
  have h := (hP.2.2.2.1 k k0 k1).2.2
  have e1 : jm_kf μ k = μ 105 (5 * k + 4) := by
    unfold jm_kf
    rw [if_pos k1]
  have e2 : ∀ j, jm_pf μ k j = μ 105 (5 * k + j) := fun j => by
    unfold jm_pf
    rw [if_pos k1]
  have e3 : jm_if μ k = μ 105 (5 * k + 3) := by
    unfold jm_if
    rw [if_pos k1]
  have e4 : jx_sn μ k = jm_sg μ k := by
    unfold jx_sn jm_sg
    rw [e1]
    split <;> split <;> omega
  unfold jx_rn jm_kr
  rw [e4, e2, e2, e2, e3, Int.add_zero]
theorem jx_ei (i : Nat) (hi : i < 3) : jm_ei i = (if (i : Int) = 0 then 1 else 0, if (i : Int) = 1 then 1 else 0, if (i : Int) = 2 then 1 else 0) := by
  rcases (show i = 0 ∨ i = 1 ∨ i = 2 by omega) with rfl | rfl | rfl <;> rfl
theorem jx_rn_lo {μ : jw_H} {i : Nat} {ra : Int} (hP : jm_Pb μ) (hi : (i : Int) < μ 103 3) (hra : ra < μ 103 5) : jx_rn μ (μ 103 5 + i) (jm_if μ (μ 103 5 + i) + if μ 103 5 + i = ra then 1 else 0) = jm_lo i := by
  have hq := hP.1
  have e1 : jm_kf μ (μ 103 5 + i) = 2 := by
    unfold jm_kf
    rw [if_neg (by omega), if_pos (by omega)]
  have e2 : ∀ j, jm_pf μ (μ 103 5 + i) j = if (i : Int) = j then 1 else 0 := fun j => by
    unfold jm_pf
    rw [if_neg (by omega), show μ 103 5 + (i : Int) - μ 103 5 = i by omega, Int.emod_eq_of_lt (by omega) hi]
  have e3 : jm_if μ (μ 103 5 + i) = 0 := by
    unfold jm_if
    rw [if_neg (by omega), if_pos (by omega)]
  have e4 : jx_sn μ (μ 103 5 + i) = -1 := by
    unfold jx_sn
    rw [e1, if_neg (by omega)]
  unfold jx_rn jm_lo
  rw [e4, e2, e2, e2, e3, show (if μ 103 5 + (i : Int) = ra then (1 : Int) else 0) = 0 from if_neg (by omega), jx_ei i (by omega)]
  simp only [Int.neg_mul, Int.one_mul]
  rfl
theorem jx_rn_hi {μ : jw_H} {i : Nat} {ra : Int} (hP : jm_Pb μ) (hi : (i : Int) < μ 103 3) (hra : ra < μ 103 5) : jx_rn μ (μ 103 5 + μ 103 3 + i) (jm_if μ (μ 103 5 + μ 103 3 + i) + if μ 103 5 + μ 103 3 + i = ra then 1 else 0) = jm_hi i (jm_Bs μ i) := by
  have hq := hP.1
  have e1 : jm_kf μ (μ 103 5 + μ 103 3 + i) = 3 := by
    unfold jm_kf
    rw [if_neg (by omega), if_neg (by omega)]
  have e2 : ∀ j, jm_pf μ (μ 103 5 + μ 103 3 + i) j = if (i : Int) = j then 1 else 0 := fun j => by
    unfold jm_pf
    rw [if_neg (by omega), show μ 103 5 + μ 103 3 + (i : Int) - μ 103 5 = i + μ 103 3 by omega, Int.add_emod_right, Int.emod_eq_of_lt (by omega) hi]
  have e3 : jm_if μ (μ 103 5 + μ 103 3 + i) = jm_Bs μ i := by
    unfold jm_if jm_Bs
    rw [if_neg (by omega), if_neg (by omega), show μ 103 5 + μ 103 3 + (i : Int) - μ 103 5 - μ 103 3 = i by omega]
  have e4 : jx_sn μ (μ 103 5 + μ 103 3 + i) = 1 := by
    unfold jx_sn
    rw [e1, if_pos (by omega)]
  unfold jx_rn jm_hi
  rw [e4, e2, e2, e2, e3, show (if μ 103 5 + μ 103 3 + (i : Int) = ra then (1 : Int) else 0) = 0 from if_neg (by omega), jx_ei i (by omega)]
  simp only [Int.one_mul, Int.add_zero]
/-- the rows of the class's bounds -/
theorem jx_fL_bk {μ : jw_H} {wo ra : Int} (hP : jm_Pb μ) (hwo : wo < μ 103 5) (hra : ra < μ 103 5) (r : ge_R) : r ∈ jx_fL μ wo ra (μ 103 5 + 2 * μ 103 3).toNat ↔ ∃ b, (b, r) ∈ jm_bk μ wo ra (μ 103 5).toNat := by
  have hq := hP.1
  have hk := hP.2.2.1
  rw [jx_fL_mem]
  constructor
  · rintro ⟨i, h1, h2, rfl⟩
    by_cases c1 : (i : Int) < μ 103 5
    · exact ⟨i, jm_bk_mem.mpr (.inl ⟨by omega, h2, jx_rn_keep hP (by omega) c1⟩)⟩
    · by_cases c2 : (i : Int) < μ 103 5 + μ 103 3
      · have e : (i : Int) = μ 103 5 + ((i - (μ 103 5).toNat : Nat) : Int) := by omega
        refine ⟨i, jm_bk_mem.mpr (.inr (jm_be_mem.mpr ⟨i - (μ 103 5).toNat, by omega, .inl ⟨by omega, ?_⟩⟩))⟩
        have := jx_rn_lo (i := i - (μ 103 5).toNat) hP (by omega) hra
        rw [← e] at this
        exact this
      · have e : (i : Int) = μ 103 5 + μ 103 3 + ((i - (μ 103 5).toNat - (μ 103 3).toNat : Nat) : Int) := by omega
        refine ⟨i, jm_bk_mem.mpr (.inr (jm_be_mem.mpr ⟨i - (μ 103 5).toNat - (μ 103 3).toNat, by omega, .inr ⟨by omega, ?_⟩⟩))⟩
        have := jx_rn_hi (i := i - (μ 103 5).toNat - (μ 103 3).toNat) hP (by omega) hra
        rw [← e] at this
        exact this
  · rintro ⟨b, hb⟩
    rcases jm_bk_mem.mp hb with ⟨h1, h2, h3⟩ | h
    · exact ⟨b, by omega, h2, by rw [h3, jx_rn_keep hP (by omega) (by omega)]⟩
    · obtain ⟨i, hi, ⟨-, h⟩ | ⟨-, h⟩⟩ := jm_be_mem.mp h
      · refine ⟨(μ 103 5).toNat + i, by omega, by omega, ?_⟩
        have := jx_rn_lo (i := i) hP (by omega) hra
        rw [h, ← this, show (((μ 103 5).toNat + i : Nat) : Int) = μ 103 5 + i by omega]
      · refine ⟨(μ 103 5).toNat + (μ 103 3).toNat + i, by omega, by omega, ?_⟩
        have := jx_rn_hi (i := i) hP (by omega) hra
        rw [h, ← this, show (((μ 103 5).toNat + (μ 103 3).toNat + i : Nat) : Int) = μ 103 5 + μ 103 3 + i by omega]
/-- the other side of a row that alone goes along a way: it changes no corner -/
theorem ge_half {R : List ge_R} {u : ge_R} {e : ge_D} (hu : u ∈ R) (he : ge_nz e) (hz : ∀ r ∈ R, r ≠ u → ge_n r e = 0) (h4 : u.2.2.2 = 0) (v : ge_R) : ge_V (ge_ngr u :: R) v ↔ ge_V R v := by
  constructor
  · rintro ⟨hF, r, hr, q, hq, t, ht, s1, s2, s3, hd⟩
    have hF2 := ge_F_mono hF
    have key : ∀ x, x ∈ ge_ngr u :: R → ge_s x v = 0 → ∃ y ∈ R, ge_s y v = 0 ∧ (x = y ∨ x = ge_ngr y) := by
      intro x hx sx
      rcases List.mem_cons.mp hx with rfl | hx
      · refine ⟨u, hu, ?_, .inr rfl⟩
        rw [ge_ngr_s] at sx
        omega
      · exact ⟨x, hx, sx, .inl rfl⟩
    obtain ⟨r', hr', s1', e1⟩ := key r hr s1
    obtain ⟨q', hq', s2', e2⟩ := key q hq s2
    obtain ⟨t', ht', s3', e3⟩ := key t ht s3
    refine ⟨hF2, r', hr', q', hq', t', ht', s1', s2', s3', fun hd' => hd ?_⟩
    simp only [ge_det, ge_n, ge_x] at hd' ⊢
    rcases e1 with rfl | rfl <;> rcases e2 with rfl | rfl <;> rcases e3 with rfl | rfl <;> first | exact hd' | (simp only [ge_ngr]; grind)
  · rintro ⟨hF, r, hr, q, hq, t, ht, s1, s2, s3, hd⟩
    have su : ge_s u v = 0 := by
      by_cases c1 : r = u
      · rw [← c1]
        exact s1
      · by_cases c2 : q = u
        · rw [← c2]
          exact s2
        · by_cases c3 : t = u
          · rw [← c3]
            exact s3
          · exact absurd he (ge_level (hz r hr c1) (hz q hq c2) (hz t ht c3) hd)
    exact ⟨ge_F_cons hF (by rw [ge_ngr_s]; omega), r, List.mem_cons_of_mem _ hr, q, List.mem_cons_of_mem _ hq, t, List.mem_cons_of_mem _ ht, s1, s2, s3, hd⟩
/-- of quantities that are not there: one side is enough -/
theorem jx_nx_V {q : Int} {L : List ge_R} (q1 : 1 ≤ q) (q3 : q ≤ 3) (hf : ∀ r ∈ L, (q ≤ 2 → r.2.2.1 = 0) ∧ (q ≤ 1 → r.2.1 = 0)) (v : ge_R) : ge_V (L ++ jx_nx q) v ↔ ge_V (L ++ jm_vr q) v := by
  rcases (show q = 1 ∨ q = 2 ∨ q = 3 by omega) with rfl | rfl | rfl
  · have e1 : jx_nx 1 = [(0, -1, 0, 0), (0, 0, -1, 0)] := rfl
    have a := ge_half (R := L ++ [(0, -1, 0, 0), (0, 0, -1, 0)]) (u := (0, 0, -1, 0)) (e := (0, 0, 1)) (by simp) (by unfold ge_nz; simp) (fun r hr hn => by
      simp only [ge_n]
      simp only [List.mem_append, List.mem_cons, List.not_mem_nil, or_false] at hr
      rcases hr with hr | rfl | rfl
      · have := (hf r hr).1 (by omega)
        omega
      · rfl
      · exact absurd rfl hn) rfl v
    have b := ge_half (R := ge_ngr (0, 0, -1, 0) :: (L ++ [(0, -1, 0, 0), (0, 0, -1, 0)])) (u := (0, -1, 0, 0)) (e := (0, 1, 0)) (by simp) (by unfold ge_nz; simp) (fun r hr hn => by
      simp only [ge_n]
      simp only [List.mem_append, List.mem_cons, List.not_mem_nil, or_false] at hr
      rcases hr with rfl | hr | rfl | rfl
      · rfl
      · have := (hf r hr).2 (by omega)
        omega
      · exact absurd rfl hn
      · rfl) rfl v
    rw [e1, ← a, ← b]
    apply ge_V_iff
    intro r
    simp only [List.mem_append, List.mem_cons, List.not_mem_nil, or_false, jm_vr, ge_ngr]
    simp
    grind
  · have e1 : jx_nx 2 = [(0, 0, -1, 0)] := rfl
    have a := ge_half (R := L ++ [(0, 0, -1, 0)]) (u := (0, 0, -1, 0)) (e := (0, 0, 1)) (by simp) (by unfold ge_nz; simp) (fun r hr hn => by
      simp only [ge_n]
      simp only [List.mem_append, List.mem_cons, List.not_mem_nil, or_false] at hr
      rcases hr with hr | rfl
      · have := (hf r hr).1 (by omega)
        omega
      · exact absurd rfl hn) rfl v
    rw [e1, ← a]
    apply ge_V_iff
    intro r
    simp only [List.mem_append, List.mem_cons, List.not_mem_nil, or_false, jm_vr, ge_ngr]
    simp
    grind
  · rfl
theorem jx_bk_flat {μ : jw_H} {wo ra : Int} (hP : jm_Pb μ) (hra : ra < μ 103 5) {b : Nat} {r : ge_R} (h : (b, r) ∈ jm_bk μ wo ra (μ 103 5).toNat) : (μ 103 3 ≤ 2 → r.2.2.1 = 0) ∧ (μ 103 3 ≤ 1 → r.2.1 = 0) := by
  have hq := hP.1
  rcases jm_bk_mem.mp h with ⟨h1, h2, h3⟩ | h
  · rw [h3]
    exact (jm_kr_ok hP (by omega) (by omega) (by split <;> omega) (by split <;> omega)).2.2
  · obtain ⟨i, hi, ⟨-, h⟩ | ⟨-, h⟩⟩ := jm_be_mem.mp h
    · rw [h]
      refine ⟨fun h2 => ?_, fun h2 => ?_⟩
      · rcases (show i = 0 ∨ i = 1 by omega) with rfl | rfl <;> rfl
      · rw [show i = 0 by omega]
        rfl
    · rw [h]
      refine ⟨fun h2 => ?_, fun h2 => ?_⟩
      · rcases (show i = 0 ∨ i = 1 by omega) with rfl | rfl <;> rfl
      · rw [show i = 0 by omega]
        rfl
/-- the class's bounds and the body have the same corners; with further rows, too -/
theorem jx_fill_V {μ : jw_H} {wo ra : Int} (hP : jm_Pb μ) (hwo : wo < μ 103 5) (hra : ra < μ 103 5) (E : List ge_R) (hE : ∀ r ∈ E, (μ 103 3 ≤ 2 → r.2.2.1 = 0) ∧ (μ 103 3 ≤ 1 → r.2.1 = 0)) (v : ge_R) : ge_V ((jx_fL μ wo ra (μ 103 5 + 2 * μ 103 3).toNat ++ jx_nx (μ 103 3)) ++ E) v ↔ ge_V (E ++ jm_RR (μ 103 3) (jm_bk μ wo ra (μ 103 5).toNat)) v := by
  have hq := hP.1
  have e1 : ge_V ((jx_fL μ wo ra (μ 103 5 + 2 * μ 103 3).toNat ++ jx_nx (μ 103 3)) ++ E) v ↔ ge_V ((jx_fL μ wo ra (μ 103 5 + 2 * μ 103 3).toNat ++ E) ++ jx_nx (μ 103 3)) v := by
    apply ge_V_iff
    intro r
    simp only [List.mem_append]
    grind
  rw [e1, jx_nx_V hq.1 hq.2]
  · apply ge_V_iff
    intro r
    unfold jm_RR
    simp only [List.mem_append, jx_fL_bk hP hwo hra, List.mem_map]
    constructor
    · rintro ((⟨b, hb⟩ | h) | h)
      · exact .inr (.inl ⟨(b, r), hb, rfl⟩)
      · exact .inl h
      · exact .inr (.inr h)
    · rintro (h | ⟨z, hz, rfl⟩ | h)
      · exact .inl (.inr h)
      · exact .inl (.inl ⟨z.1, hz⟩)
      · exact .inr h
  · intro r hr
    rcases List.mem_append.mp hr with h | h
    · obtain ⟨b, hb⟩ := (jx_fL_bk hP hwo hra r).mp h
      exact jx_bk_flat hP hra hb
    · exact hE r h
/-- the class's bounds are small -/
theorem jx_fL_rb {μ : jw_H} {wo ra : Int} (hP : jm_Pb μ) (hwo : wo < μ 103 5) (hra : ra < μ 103 5) {r : ge_R} (h : r ∈ jx_fL μ wo ra (μ 103 5 + 2 * μ 103 3).toNat ++ jx_nx (μ 103 3)) : jx_rb r := by
  have hq := hP.1
  rcases List.mem_append.mp h with h | h
  · obtain ⟨b, hb⟩ := (jx_fL_bk hP hwo hra r).mp h
    rcases jm_bk_mem.mp hb with ⟨h1, h2, h3⟩ | h
    · rw [h3]
      have := jm_kr_ok (k := (b : Int)) (m := if (b : Int) = ra then 1 else 0) hP (by omega) (by omega) (by split <;> omega) (by split <;> omega)
      exact ⟨this.1, by omega⟩
    · refine ⟨jm_be_sm h (by omega), ?_⟩
      obtain ⟨i, hi, ⟨-, h⟩ | ⟨-, h⟩⟩ := jm_be_mem.mp h
      · rw [h]
        unfold jm_lo
        simp only
        omega
      · rw [h]
        have := hP.2.2.2.2.1 (i : Int) (by omega) (by omega)
        unfold jm_hi jm_Bs
        simp only
        omega
  · unfold jx_nx at h
    split at h
    · simp only [List.mem_cons, List.not_mem_nil, or_false] at h
      rcases h with rfl | rfl <;> (unfold jx_rb ge_sm jx_xr; simp)
    · split at h
      · simp only [List.mem_cons, List.not_mem_nil, or_false] at h
        rw [h]
        unfold jx_rb ge_sm jx_xr
        simp
      · cases h
theorem jx_fL_rb' {μ : jw_H} {wo ra : Int} {E : List ge_R} (hP : jm_Pb μ) (hwo : wo < μ 103 5) (hra : ra < μ 103 5) (hE : ∀ r ∈ E, jx_rb r) {r : ge_R} (h : r ∈ (jx_fL μ wo ra (μ 103 5 + 2 * μ 103 3).toNat ++ jx_nx (μ 103 3)) ++ E) : jx_rb r := by
  rcases List.mem_append.mp h with h | h
  · exact jx_fL_rb hP hwo hra h
  · exact hE r h
/-- corners of what is allowed stay small -/
theorem jx_fV_bd {μ : jw_H} {wo ra : Int} {E : List ge_R} (hP : jm_Pb μ) (hwo : wo < μ 103 5) (hra : ra < μ 103 5) (hE : ∀ r ∈ E, ge_sm r) {v : ge_R} (hv : ge_V (E ++ jm_RR (μ 103 3) (jm_bk μ wo ra (μ 103 5).toNat)) v) (hg : ge_g v = 1) : (jm_in4 1458 v ∧ v.2.2.2 ≤ 162) ∧ jx_bd v := by
  have hk := hP.2.2.1
  have hb := jm_bk_bnd (wo := wo) (mo := ra) hP (k := (μ 103 5).toNat) (by omega)
  have e : ge_V (E ++ jm_RR (μ 103 3) (jm_bk μ wo ra (μ 103 5).toNat)) v ↔ ge_V (jm_RR (μ 103 3) (E.map (fun r => (0, r)) ++ jm_bk μ wo ra (μ 103 5).toNat)) v := by
    apply ge_V_iff
    intro r
    unfold jm_RR
    simp only [List.map_append, List.map_map, List.mem_append, List.mem_map, Function.comp]
    constructor
    · rintro (h | h | h)
      · exact .inl (.inl ⟨r, h, rfl⟩)
      · exact .inl (.inr h)
      · exact .inr h
    · rintro ((⟨a, h, rfl⟩ | h) | h)
      · exact .inl h
      · exact .inr (.inl h)
      · exact .inr (.inr h)
  have h := jm_V_bd (β := E.map (fun r => (0, r)) ++ jm_bk μ wo ra (μ 103 5).toNat) hP ⟨fun b r hr => ?_, fun z hz => List.mem_append_right _ (hb.2 z hz)⟩ (e.mp hv) hg
  · refine ⟨⟨h.1, h.2.1⟩, ?_⟩
    obtain ⟨⟨a1, a2, a3, a4⟩, a5, -⟩ := h
    unfold jx_bd
    omega
  · rcases List.mem_append.mp hr with hr | hr
    · obtain ⟨x, hx, e⟩ := List.mem_map.mp hr
      cases e
      exact hE _ hx
    · exact hb.1 b r hr

/-! ===== geometry: a body cut by one row more ===== -/
/-- where the line from a point inside to one outside goes through a row -/
def ge_cr (h p q : ge_R) : ge_R := (ge_s h q * p.1 - ge_s h p * q.1, ge_s h q * p.2.1 - ge_s h p * q.2.1, ge_s h q * p.2.2.1 - ge_s h p * q.2.2.1, ge_s h q * p.2.2.2 - ge_s h p * q.2.2.2)
theorem ge_cr_s (r h p q : ge_R) : ge_s r (ge_cr h p q) = ge_s h q * ge_s r p - ge_s h p * ge_s r q := by
  generalize e1 : ge_s h q = a
  generalize e2 : ge_s h p = b
  simp only [ge_cr, e1, e2]
  simp only [ge_s]
  grind
theorem ge_cr_h (h p q : ge_R) : ge_s h (ge_cr h p q) = 0 := by
  rw [ge_cr_s, Int.mul_comm]
  omega
/-- an edge: two rows that are tight at both and not side by side -/
def ge_ed (R : List ge_R) (p q : ge_R) : Prop := ∃ r ∈ R, ∃ t ∈ R, ge_s r p = 0 ∧ ge_s r q = 0 ∧ ge_s t p = 0 ∧ ge_s t q = 0 ∧ ge_nz (ge_x r t)
theorem ge_F_mono {R : List ge_R} {h p : ge_R} (hp : ge_F (h :: R) p) : ge_F R p := ⟨hp.1, fun r hr => hp.2 r (List.mem_cons_of_mem _ hr)⟩
theorem ge_F_cons {R : List ge_R} {h p : ge_R} (hp : ge_F R p) (hs : ge_s h p ≤ 0) : ge_F (h :: R) p := ⟨hp.1, fun r hr => by
  rcases List.mem_cons.mp hr with e | hr
  · rw [e]; exact hs
  · exact hp.2 r hr⟩
theorem ge_B_cons {R : List ge_R} {h : ge_R} (hB : ge_B R) : ge_B (h :: R) := fun d hd => by
  obtain ⟨r, hr, h1⟩ := hB d hd
  exact ⟨r, List.mem_cons_of_mem _ hr, h1⟩
theorem ge_cr_F {R : List ge_R} {h p q : ge_R} (hp : ge_F R p) (hq : ge_F R q) (sp : ge_s h p < 0) (sq : 0 < ge_s h q) : ge_F (h :: R) (ge_cr h p q) := by
  refine ge_F_cons ⟨?_, fun r hr => ?_⟩ (Int.le_of_eq (ge_cr_h h p q))
  · have h1 := Int.mul_pos sq hp.1
    have h2 := Int.mul_pos (show 0 < - ge_s h p by omega) hq.1
    rw [Int.neg_mul] at h2
    simp only [ge_cr]
    omega
  · rw [ge_cr_s]
    have h1 := ge_mul_pn (Int.le_of_lt sq) (hp.2 r hr)
    have h2 := ge_mul_nn (Int.le_of_lt sp) (hq.2 r hr)
    omega
theorem ge_x_par {r t : ge_R} {d : ge_D} (h1 : ge_n r d = 0) (h2 : ge_n t d = 0) : (ge_x r t).1 * d.2.1 = (ge_x r t).2.1 * d.1 ∧ (ge_x r t).2.1 * d.2.2 = (ge_x r t).2.2 * d.2.1 ∧ (ge_x r t).2.2 * d.1 = (ge_x r t).1 * d.2.2 := by
  simp only [ge_n] at h1 h2
  simp only [ge_x]
  refine ⟨?_, ?_, ?_⟩ <;> grind
/-- if a way is level on two rows and not on a third one, the three meet in a point -/
theorem ge_three {r t h : ge_R} {d : ge_D} (h1 : ge_n r d = 0) (h2 : ge_n t d = 0) (h3 : ge_n h d ≠ 0) (hx : ge_nz (ge_x r t)) : ge_det r t h ≠ 0 := by
  intro h0
  obtain ⟨p1, p2, p3⟩ := ge_x_par h1 h2
  have h0 : h.1 * (ge_x r t).1 + h.2.1 * (ge_x r t).2.1 + h.2.2.1 * (ge_x r t).2.2 = 0 := h0
  simp only [ge_n] at h3
  have q1 : (h.1 * d.1 + h.2.1 * d.2.1 + h.2.2.1 * d.2.2) * (ge_x r t).1 = 0 := by grind
  have q2 : (h.1 * d.1 + h.2.1 * d.2.1 + h.2.2.1 * d.2.2) * (ge_x r t).2.1 = 0 := by grind
  have q3 : (h.1 * d.1 + h.2.1 * d.2.1 + h.2.2.1 * d.2.2) * (ge_x r t).2.2 = 0 := by grind
  exact hx ⟨(Int.mul_eq_zero.mp q1).resolve_left h3, (Int.mul_eq_zero.mp q2).resolve_left h3, (Int.mul_eq_zero.mp q3).resolve_left h3⟩
theorem ge_cr_V {R : List ge_R} {h p q : ge_R} (hp : ge_F R p) (hq : ge_F R q) (sp : ge_s h p < 0) (sq : 0 < ge_s h q) (he : ge_ed R p q) : ge_V (h :: R) (ge_cr h p q) := by
  obtain ⟨r, hr, t, ht, r1, r2, t1, t2, hx⟩ := he
  refine ⟨ge_cr_F hp hq sp sq, r, List.mem_cons_of_mem _ hr, t, List.mem_cons_of_mem _ ht, h, List.mem_cons_self, ?_, ?_, ge_cr_h h p q, ?_⟩
  · rw [ge_cr_s, r1, r2]
    omega
  · rw [ge_cr_s, t1, t2]
    omega
  · refine ge_three (d := ge_to p q) ?_ ?_ ?_ hx
    · rw [ge_to_n, r1, r2]
      omega
    · rw [ge_to_n, t1, t2]
      omega
    · rw [ge_to_n]
      have h1 := Int.mul_pos sq hp.1
      have h2 := Int.mul_pos (show 0 < - ge_s h p by omega) hq.1
      rw [Int.neg_mul] at h2
      omega
theorem ge_det_nz {r q t : ge_R} (hd : ge_det r q t ≠ 0) : ge_nz (ge_x r q) ∧ ge_nz (ge_x q t) ∧ ge_nz (ge_x t r) := by
  refine ⟨fun w => hd ?_, fun w => hd ?_, fun w => hd ?_⟩
  · simp only [ge_det, ge_n]
    rw [w.1, w.2.1, w.2.2]
    omega
  · have e : ge_det r q t = ge_n r (ge_x q t) := by
      simp only [ge_det, ge_n, ge_x]
      grind
    rw [e]
    simp only [ge_n]
    rw [w.1, w.2.1, w.2.2]
    omega
  · have e : ge_det r q t = ge_n q (ge_x t r) := by
      simp only [ge_det, ge_n, ge_x]
      grind
    rw [e]
    simp only [ge_n]
    rw [w.1, w.2.1, w.2.2]
    omega
theorem ge_det_rot (r q t : ge_R) : ge_det q t r = ge_det r q t := by
  simp only [ge_det, ge_n, ge_x]
  grind
/-- two tight rows of the body itself, with a third one: the row of the cut -/
theorem ge_two {R : List ge_R} {h v : ge_R} (hv : ge_V (h :: R) v) (hn : ¬ ge_V R v) : ∃ r ∈ R, ∃ t ∈ R, ge_s r v = 0 ∧ ge_s t v = 0 ∧ ge_s h v = 0 ∧ ge_det r t h ≠ 0 := by
  obtain ⟨hF, r, hr, q, hq, t, ht, sr, sq, st, hd⟩ := hv
  have key : ∀ {r q t : ge_R}, r ∈ R → q ∈ R → t ∈ R → ge_s r v = 0 → ge_s q v = 0 → ge_s t v = 0 → ge_det r q t ≠ 0 → False := fun a b c d e f g => hn ⟨ge_F_mono hF, _, a, _, b, _, c, d, e, f, g⟩
  rcases List.mem_cons.mp hr with er | hr1
  · subst er
    have hd2 : ge_det q t r ≠ 0 := by rw [ge_det_rot]; exact hd
    rcases List.mem_cons.mp hq with eq | hq1
    · subst eq
      exact absurd (by simp only [ge_det, ge_n, ge_x]; grind) hd
    · rcases List.mem_cons.mp ht with et | ht1
      · subst et
        exact absurd (by simp only [ge_det, ge_n, ge_x]; grind) hd
      · exact ⟨q, hq1, t, ht1, sq, st, sr, hd2⟩
  · rcases List.mem_cons.mp hq with eq | hq1
    · subst eq
      have hd2 : ge_det t r q ≠ 0 := by rw [ge_det_rot, ge_det_rot]; exact hd
      rcases List.mem_cons.mp ht with et | ht1
      · subst et
        exact absurd (by simp only [ge_det, ge_n, ge_x]; grind) hd
      · exact ⟨t, ht1, r, hr1, st, sr, sq, hd2⟩
    · rcases List.mem_cons.mp ht with et | ht1
      · subst et
        exact ⟨r, hr1, q, hq1, sr, sq, st, hd⟩
      · exact (key hr1 hq1 ht1 sr sq st hd).elim
/-- along an edge to its end -/
theorem ge_end {R : List ge_R} (hB : ge_B R) {h v : ge_R} (hF : ge_F R v) {r t : ge_R} (hr : r ∈ R) (ht : t ∈ R) (sr : ge_s r v = 0) (st : ge_s t v = 0) (sh : ge_s h v = 0) (hlev : ∀ u ∈ R, ge_s u v = 0 → ge_det r t u = 0) {d : ge_D} (hd : ge_nz d) (d1 : ge_n r d = 0) (d2 : ge_n t d = 0) (hx : ge_nz (ge_x r t)) : ∃ (g k : Int) (p : ge_R), ge_V R p ∧ 0 < g ∧ 0 < k ∧ ge_s r p = 0 ∧ ge_s t p = 0 ∧ p = (g * v.1 + k * d.1, g * v.2.1 + k * d.2.1, g * v.2.2.1 + k * d.2.2, g * v.2.2.2) ∧ ge_s h p = k * ge_n h d := by
  obtain ⟨u, hu, h1, h2, h3⟩ := ge_move hF (hB d hd)
  have hdet : ge_det r t u ≠ 0 := ge_three d1 d2 (by omega) hx
  have su : ge_s u v < 0 := by
    have := hF.2 u hu
    rcases Int.lt_or_eq_of_le this with h | h
    · exact h
    · exact absurd (hlev u hu h) hdet
  have e1 : ge_s r (ge_mv u v d) = 0 := by
    rw [ge_mv_s, sr, d1]
    omega
  have e2 : ge_s t (ge_mv u v d) = 0 := by
    rw [ge_mv_s, st, d2]
    omega
  refine ⟨ge_n u d, - ge_s u v, ge_mv u v d, ⟨h2, r, hr, t, ht, u, hu, e1, e2, h3, hdet⟩, h1, by omega, e1, e2, ?_, ?_⟩
  · simp only [ge_mv, Int.neg_mul]
    rfl
  · rw [ge_mv_s, sh, Int.neg_mul]
    omega
theorem ge_scale {p v : ge_R} {c : Int} (e : p = (c * v.1, c * v.2.1, c * v.2.2.1, c * v.2.2.2)) : ge_e p v := by
  subst e
  simp only [ge_e]
  refine ⟨?_, ?_, ?_⟩ <;> grind
/-- what is a corner of the body that was cut: what it was, inside; or where an edge goes through -/
theorem ge_cut {R : List ge_R} (hB : ge_B R) {h v : ge_R} (hv : ge_V (h :: R) v) : (ge_V R v ∧ ge_s h v ≤ 0) ∨ ∃ p q, ge_V R p ∧ ge_V R q ∧ ge_s h p < 0 ∧ 0 < ge_s h q ∧ ge_ed R p q ∧ ge_e (ge_cr h p q) v := by
  by_cases hV : ge_V R v
  · exact .inl ⟨hV, hv.1.2 h List.mem_cons_self⟩
  · right
    obtain ⟨r, hr, t, ht, sr, st, sh, hd⟩ := ge_two hv hV
    have hF := ge_F_mono hv.1
    have hlev : ∀ u ∈ R, ge_s u v = 0 → ge_det r t u = 0 := fun u hu su => Classical.byContradiction (fun w => hV ⟨hF, r, hr, t, ht, u, hu, sr, st, su, w⟩)
    have hx := (ge_det_nz hd).1
    have hx2 : ge_nz (ge_ng (ge_x r t)) := fun w => hx (by simp only [ge_ng] at w; omega)
    obtain ⟨g, k, p, p1, p2, p3, p4, p5, p6, p7⟩ := ge_end hB (h := h) hF hr ht sr st sh hlev hx (ge_x_n1 r t) (ge_x_n2 r t) hx
    obtain ⟨g', k', q, q1, q2, q3, q4, q5, q6, q7⟩ := ge_end hB (h := h) hF hr ht sr st sh hlev hx2 (by rw [ge_ng_n, ge_x_n1]; rfl) (by rw [ge_ng_n, ge_x_n2]; rfl) hx
    rw [ge_ng_n] at q7
    have hd : ge_n h (ge_x r t) ≠ 0 := hd
    generalize ge_n h (ge_x r t) = m at *
    by_cases hm : 0 < m
    · have a1 := Int.mul_pos p3 hm
      have a2 := Int.mul_pos q3 hm
      rw [Int.mul_neg] at q7
      refine ⟨q, p, q1, p1, by omega, by omega, ⟨r, hr, t, ht, q4, p4, q5, p5, hx⟩, ge_scale (c := k * m * g' + k' * m * g) ?_⟩
      simp only [ge_cr, p7, q7]
      rw [p6, q6]
      simp only [ge_ng, Prod.mk.injEq]
      refine ⟨?_, ?_, ?_, ?_⟩ <;> grind
    · have a1 := Int.mul_pos p3 (show 0 < -m by omega)
      have a2 := Int.mul_pos q3 (show 0 < -m by omega)
      rw [Int.mul_neg] at a1 a2 q7
      refine ⟨p, q, p1, q1, by omega, by omega, ⟨r, hr, t, ht, p4, q4, p5, q5, hx⟩, ge_scale (c := -(k * m * g' + k' * m * g)) ?_⟩
      simp only [ge_cr, p7, q7]
      rw [p6, q6]
      simp only [ge_ng, Prod.mk.injEq]
      refine ⟨?_, ?_, ?_, ?_⟩ <;> grind
theorem ge_V_cons {R : List ge_R} {h v : ge_R} (hv : ge_V R v) (hs : ge_s h v ≤ 0) : ge_V (h :: R) v := by
  obtain ⟨hF, r, hr, q, hq, t, ht, s1, s2, s3, hd⟩ := hv
  exact ⟨ge_F_cons hF hs, r, List.mem_cons_of_mem _ hr, q, List.mem_cons_of_mem _ hq, t, List.mem_cons_of_mem _ ht, s1, s2, s3, hd⟩
/-- a corner amid two allowed points is in the place of both -/
theorem ge_amid {R : List ge_R} {v p q : ge_R} (hv : ge_V R v) (hp : ge_F R p) (hq : ge_F R q) {a b : Int} (ha : 0 < a) (hb : 0 < b) (h1 : a * (ge_to v p).1 + b * (ge_to v q).1 = 0) (h2 : a * (ge_to v p).2.1 + b * (ge_to v q).2.1 = 0) (h3 : a * (ge_to v p).2.2 + b * (ge_to v q).2.2 = 0) : ge_e v p := by
  obtain ⟨hF, r, hr, s, hs, t, ht, s1, s2, s3, hd⟩ := hv
  have key : ∀ u ∈ R, ge_s u v = 0 → ge_n u (ge_to v p) = 0 := by
    intro u hu su
    have e1 : ge_n u (ge_to v p) = ge_s u p * v.2.2.2 - ge_s u v * p.2.2.2 := ge_to_n u v p
    have e2 : ge_n u (ge_to v q) = ge_s u q * v.2.2.2 - ge_s u v * q.2.2.2 := ge_to_n u v q
    rw [su] at e1 e2
    have f1 := ge_mul_np (hp.2 u hu) (Int.le_of_lt hF.1)
    have f2 := ge_mul_np (hq.2 u hu) (Int.le_of_lt hF.1)
    have g1 : ge_n u (ge_to v p) ≤ 0 := by omega
    have g2 : ge_n u (ge_to v q) ≤ 0 := by omega
    have g3 : a * ge_n u (ge_to v p) + b * ge_n u (ge_to v q) = 0 := by
      simp only [ge_n]
      grind
    have g4 := ge_mul_pn (Int.le_of_lt ha) g1
    have g5 := ge_mul_pn (Int.le_of_lt hb) g2
    have g6 : a * ge_n u (ge_to v p) = 0 := by omega
    exact (Int.mul_eq_zero.mp g6).resolve_left (by omega)
  exact ge_to_z.mpr (ge_level (key r hr s1) (key s hs s2) (key t ht s3) hd)

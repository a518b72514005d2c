/-! ===== geometry, pure: rows a x + b y + c z ≤ n, points as fractions (x, y, z over w), where rows meet ===== -/
abbrev ge_R : Type := Int × Int × Int × Int
abbrev ge_D : Type := Int × Int × Int
/-- by how much a row is over at a point, w times -/
def ge_s (r p : ge_R) : Int := r.1 * p.1 + r.2.1 * p.2.1 + r.2.2.1 * p.2.2.1 - r.2.2.2 * p.2.2.2
/-- a row along a way -/
def ge_n (r : ge_R) (d : ge_D) : Int := r.1 * d.1 + r.2.1 * d.2.1 + r.2.2.1 * d.2.2
/-- across two rows -/
def ge_x (r q : ge_R) : ge_D := (r.2.1 * q.2.2.1 - r.2.2.1 * q.2.1, r.2.2.1 * q.1 - r.1 * q.2.2.1, r.1 * q.2.1 - r.2.1 * q.1)
def ge_det (r q t : ge_R) : Int := ge_n t (ge_x r q)
/-- a sum at a point, w times; along a way -/
def ge_f (f : ge_D) (p : ge_R) : Int := f.1 * p.1 + f.2.1 * p.2.1 + f.2.2 * p.2.2.1
def ge_fd (f d : ge_D) : Int := f.1 * d.1 + f.2.1 * d.2.1 + f.2.2 * d.2.2
def ge_F (R : List ge_R) (p : ge_R) : Prop := 0 < p.2.2.2 ∧ ∀ r ∈ R, ge_s r p ≤ 0
/-- a corner: allowed, and three rows that are tight there meet in a point -/
def ge_V (R : List ge_R) (p : ge_R) : Prop := ge_F R p ∧ ∃ r ∈ R, ∃ q ∈ R, ∃ t ∈ R, ge_s r p = 0 ∧ ge_s q p = 0 ∧ ge_s t p = 0 ∧ ge_det r q t ≠ 0
/-- every way comes to an end -/
def ge_B (R : List ge_R) : Prop := ∀ d : ge_D, ¬ (d.1 = 0 ∧ d.2.1 = 0 ∧ d.2.2 = 0) → ∃ r ∈ R, 0 < ge_n r d
def ge_nz (d : ge_D) : Prop := ¬ (d.1 = 0 ∧ d.2.1 = 0 ∧ d.2.2 = 0)
theorem ge_tr {a b c n m k : Int} (hn : 0 < n) (hm : 0 < m) (hk : 0 < k) (h1 : n * b ≤ a * m) (h2 : m * c ≤ b * k) : n * c ≤ a * k := by
  have a1 := Int.mul_le_mul_of_nonneg_right h1 (Int.le_of_lt hk)
  have a2 := Int.mul_le_mul_of_nonneg_right h2 (Int.le_of_lt hn)
  refine Int.le_of_mul_le_mul_right ?_ hm
  have e1 : n * c * m = m * c * n := by grind
  have e2 : b * k * n = n * b * k := by grind
  have e3 : a * k * m = a * m * k := by grind
  omega
/-- among the rows that rise along a way the one that is met first -/
theorem ge_min (p : ge_R) (d : ge_D) : ∀ R : List ge_R, (∀ r ∈ R, ge_n r d ≤ 0) ∨ ∃ r ∈ R, 0 < ge_n r d ∧ ∀ q ∈ R, 0 < ge_n q d → ge_n r d * ge_s q p ≤ ge_s r p * ge_n q d
  | [] => .inl (fun r h => absurd h List.not_mem_nil)
  | r0 :: R => by
    rcases ge_min p d R with h | ⟨r, hr, hp, hm⟩
    · by_cases h0 : 0 < ge_n r0 d
      · right
        refine ⟨r0, List.mem_cons_self, h0, fun q hq hq1 => ?_⟩
        rcases List.mem_cons.mp hq with e | hq
        · subst e
          exact Int.le_of_eq (Int.mul_comm _ _)
        · have := h q hq
          omega
      · left
        intro q hq
        rcases List.mem_cons.mp hq with e | hq
        · subst e
          omega
        · exact h q hq
    · by_cases h0 : 0 < ge_n r0 d ∧ ge_s r p * ge_n r0 d < ge_n r d * ge_s r0 p
      · right
        refine ⟨r0, List.mem_cons_self, h0.1, fun q hq hq1 => ?_⟩
        rcases List.mem_cons.mp hq with e | hq
        · subst e
          exact Int.le_of_eq (Int.mul_comm _ _)
        · have h2 := hm q hq hq1
          refine ge_tr (b := ge_s r p) (m := ge_n r d) h0.1 hp hq1 ?_ h2
          have e1 : ge_n r0 d * ge_s r p = ge_s r p * ge_n r0 d := Int.mul_comm _ _
          have e2 : ge_s r0 p * ge_n r d = ge_n r d * ge_s r0 p := Int.mul_comm _ _
          omega
      · right
        refine ⟨r, List.mem_cons_of_mem _ hr, hp, fun q hq hq1 => ?_⟩
        rcases List.mem_cons.mp hq with e | hq
        · subst e
          exact Int.not_lt.mp (fun w => h0 ⟨hq1, w⟩)
        · exact hm q hq hq1
/-- a point moved along a way till it meets a row -/
def ge_mv (r p : ge_R) (d : ge_D) : ge_R := (ge_n r d * p.1 - ge_s r p * d.1, ge_n r d * p.2.1 - ge_s r p * d.2.1, ge_n r d * p.2.2.1 - ge_s r p * d.2.2, ge_n r d * p.2.2.2)
theorem ge_mv_s (q r p : ge_R) (d : ge_D) : ge_s q (ge_mv r p d) = ge_n r d * ge_s q p - ge_s r p * ge_n q d := by
  simp only [ge_s, ge_mv]
  generalize r.1 * p.1 + r.2.1 * p.2.1 + r.2.2.1 * p.2.2.1 - r.2.2.2 * p.2.2.2 = s
  generalize ge_n r d = n
  simp only [ge_n]
  grind
theorem ge_mv_f (f : ge_D) (r p : ge_R) (d : ge_D) : ge_f f (ge_mv r p d) = ge_n r d * ge_f f p - ge_s r p * ge_fd f d := by
  simp only [ge_f, ge_mv, ge_fd]
  generalize ge_s r p = s
  generalize ge_n r d = n
  grind
theorem ge_mul_np {a b : Int} (ha : a ≤ 0) (hb : 0 ≤ b) : a * b ≤ 0 := by
  have := Int.mul_nonneg (show 0 ≤ -a by omega) hb
  rw [Int.neg_mul] at this
  omega
theorem ge_mul_pn {a b : Int} (ha : 0 ≤ a) (hb : b ≤ 0) : a * b ≤ 0 := by
  rw [Int.mul_comm]
  exact ge_mul_np hb ha
theorem ge_mul_nn {a b : Int} (ha : a ≤ 0) (hb : b ≤ 0) : 0 ≤ a * b := by
  have := Int.mul_nonneg (show 0 ≤ -a by omega) (show 0 ≤ -b by omega)
  rwa [Int.neg_mul_neg] at this
theorem ge_move {R : List ge_R} {p : ge_R} {d : ge_D} (hF : ge_F R p) (hd : ∃ r ∈ R, 0 < ge_n r d) : ∃ r ∈ R, 0 < ge_n r d ∧ ge_F R (ge_mv r p d) ∧ ge_s r (ge_mv r p d) = 0 := by
  rcases ge_min p d R with h | ⟨r, hr, hp, hm⟩
  · obtain ⟨r, hr, hp⟩ := hd
    have := h r hr
    omega
  · refine ⟨r, hr, hp, ⟨Int.mul_pos hp hF.1, fun q hq => ?_⟩, ?_⟩
    · rw [ge_mv_s]
      by_cases hq1 : 0 < ge_n q d
      · have := hm q hq hq1
        omega
      · have h1 := ge_mul_pn (Int.le_of_lt hp) (hF.2 q hq)
        have h2 := ge_mul_nn (hF.2 r hr) (show ge_n q d ≤ 0 by omega)
        omega
    · rw [ge_mv_s, Int.mul_comm]
      omega
/-- no less of f, and what is tight stays so -/
def ge_up (R : List ge_R) (f : ge_D) (p v : ge_R) : Prop := ge_F R v ∧ (∀ r ∈ R, ge_s r p = 0 → ge_s r v = 0) ∧ ge_f f p * v.2.2.2 ≤ ge_f f v * p.2.2.2
theorem ge_up_rf {R : List ge_R} {f : ge_D} {p : ge_R} (h : ge_F R p) : ge_up R f p p := ⟨h, fun _ _ h => h, Int.le_refl _⟩
theorem ge_up_tr {R : List ge_R} {f : ge_D} {p v u : ge_R} (hp : ge_F R p) (a : ge_up R f p v) (b : ge_up R f v u) : ge_up R f p u := by
  refine ⟨b.1, fun r hr h => b.2.1 r hr (a.2.1 r hr h), ?_⟩
  have h1 := a.2.2
  have h2 := b.2.2
  have h3 := ge_tr (n := u.2.2.2) (m := v.2.2.2) (k := p.2.2.2) (a := ge_f f u) (b := ge_f f v) (c := ge_f f p) b.1.1 a.1.1 hp.1 (by rw [Int.mul_comm]; exact h2) (by rw [Int.mul_comm]; exact h1)
  rw [Int.mul_comm]
  exact h3
def ge_ng (d : ge_D) : ge_D := (-d.1, -d.2.1, -d.2.2)
theorem ge_ng_n (r : ge_R) (d : ge_D) : ge_n r (ge_ng d) = - ge_n r d := by
  simp only [ge_n, ge_ng]
  grind
theorem ge_ng_f (f d : ge_D) : ge_fd f (ge_ng d) = - ge_fd f d := by
  simp only [ge_fd, ge_ng]
  grind
theorem ge_step1 {R : List ge_R} (hB : ge_B R) {f : ge_D} {p : ge_R} (hF : ge_F R p) {d : ge_D} (hd : ge_nz d) (hz : ∀ r ∈ R, ge_s r p = 0 → ge_n r d = 0) (hf : 0 ≤ ge_fd f d) : ∃ v, ge_up R f p v ∧ ∃ r ∈ R, 0 < ge_n r d ∧ ge_s r v = 0 := by
  obtain ⟨r, hr, h1, h2, h3⟩ := ge_move hF (hB d hd)
  refine ⟨ge_mv r p d, ⟨h2, fun q hq hq0 => ?_, ?_⟩, r, hr, h1, h3⟩
  · rw [ge_mv_s, hq0, hz q hq hq0]
    omega
  · rw [ge_mv_f]
    have h4 := ge_mul_np (hF.2 r hr) hf
    have h5 := ge_mul_np h4 (Int.le_of_lt hF.1)
    have e : ge_f f p * (ge_mv r p d).2.2.2 = ge_n r d * ge_f f p * p.2.2.2 := by
      simp only [ge_mv]
      grind
    rw [e, Int.sub_mul]
    omega
theorem ge_step {R : List ge_R} (hB : ge_B R) (f : ge_D) {p : ge_R} (hF : ge_F R p) {d : ge_D} (hd : ge_nz d) (hz : ∀ r ∈ R, ge_s r p = 0 → ge_n r d = 0) : ∃ v, ge_up R f p v ∧ ∃ r ∈ R, ge_n r d ≠ 0 ∧ ge_s r v = 0 := by
  by_cases hf : 0 ≤ ge_fd f d
  · obtain ⟨v, h1, r, hr, h2, h3⟩ := ge_step1 hB hF hd hz hf
    exact ⟨v, h1, r, hr, by omega, h3⟩
  · obtain ⟨v, h1, r, hr, h2, h3⟩ := ge_step1 (f := f) (d := ge_ng d) hB hF (fun q => hd (by simp only [ge_ng] at q; omega)) (fun r hr h => by rw [ge_ng_n, hz r hr h]; rfl) (by rw [ge_ng_f]; omega)
    rw [ge_ng_n] at h2
    exact ⟨v, h1, r, hr, by omega, h3⟩
theorem ge_x_n1 (r q : ge_R) : ge_n r (ge_x r q) = 0 := by
  simp only [ge_n, ge_x]
  grind
theorem ge_x_n2 (r q : ge_R) : ge_n q (ge_x r q) = 0 := by
  simp only [ge_n, ge_x]
  grind
/-- from two rows that are tight and not side by side to a corner -/
theorem ge_vert2 {R : List ge_R} (hB : ge_B R) (f : ge_D) {p : ge_R} (hF : ge_F R p) {r q : ge_R} (hr : r ∈ R) (hq : q ∈ R) (sr : ge_s r p = 0) (sq : ge_s q p = 0) (hx : ge_nz (ge_x r q)) : ∃ v, ge_V R v ∧ ge_up R f p v := by
  by_cases h : ∃ t ∈ R, ge_s t p = 0 ∧ ge_det r q t ≠ 0
  · obtain ⟨t, ht, st, hd⟩ := h
    exact ⟨p, ⟨hF, r, hr, q, hq, t, ht, sr, sq, st, hd⟩, ge_up_rf hF⟩
  · obtain ⟨v, h1, t, ht, h2, h3⟩ := ge_step hB f hF hx (fun t ht st => by
      by_cases h0 : ge_n t (ge_x r q) = 0
      · exact h0
      · exact absurd ⟨t, ht, st, h0⟩ h)
    exact ⟨v, ⟨h1.1, r, hr, q, hq, t, ht, h1.2.1 r hr sr, h1.2.1 q hq sq, h3, h2⟩, h1⟩
theorem ge_vert1 {R : List ge_R} (hB : ge_B R) (f : ge_D) {p : ge_R} (hF : ge_F R p) {r : ge_R} (hr : r ∈ R) (sr : ge_s r p = 0) (hz : ¬ (r.1 = 0 ∧ r.2.1 = 0 ∧ r.2.2.1 = 0)) : ∃ v, ge_V R v ∧ ge_up R f p v := by
  by_cases h : ∃ t ∈ R, ge_s t p = 0 ∧ ge_nz (ge_x r t)
  · obtain ⟨t, ht, st, hd⟩ := h
    exact ge_vert2 hB f hF hr ht sr st hd
  · have hp : ∀ t ∈ R, ge_s t p = 0 → (ge_x r t).1 = 0 ∧ (ge_x r t).2.1 = 0 ∧ (ge_x r t).2.2 = 0 := fun t ht st => Classical.byContradiction (fun w => h ⟨t, ht, st, w⟩)
    by_cases hab : r.1 = 0 ∧ r.2.1 = 0
    · have hc : r.2.2.1 ≠ 0 := fun w => hz ⟨hab.1, hab.2, w⟩
      obtain ⟨v, h1, t, ht, h2, h3⟩ := ge_step (d := (1, 0, 0)) hB f hF (fun w => absurd w.1 (by decide)) (fun t ht st => by
        have := hp t ht st
        simp only [ge_x, ge_n] at this ⊢
        have e : r.2.2.1 * t.1 = 0 := by
          have := this.2.1
          rw [hab.1] at this
          omega
        rcases Int.mul_eq_zero.mp e with e | e
        · exact absurd e hc
        · omega)
      obtain ⟨u, h4, h5⟩ := ge_vert2 hB f h1.1 hr ht (h1.2.1 r hr sr) h3 (fun w => by
        simp only [ge_x, ge_n] at w h2
        have e : r.2.2.1 * t.1 = 0 := by
          have := w.2.1
          rw [hab.1] at this
          omega
        rcases Int.mul_eq_zero.mp e with e | e
        · exact absurd e hc
        · omega)
      exact ⟨u, h4, ge_up_tr hF h1 h5⟩
    · obtain ⟨v, h1, t, ht, h2, h3⟩ := ge_step (d := (r.2.1, -r.1, 0)) hB f hF (fun w => hab (by simp only at w; omega)) (fun t ht st => by
        have := (hp t ht st).2.2
        simp only [ge_x, ge_n] at this ⊢
        grind)
      obtain ⟨u, h4, h5⟩ := ge_vert2 hB f h1.1 hr ht (h1.2.1 r hr sr) h3 (fun w => h2 (by
        have := w.2.2
        simp only [ge_x, ge_n] at this ⊢
        grind))
      exact ⟨u, h4, ge_up_tr hF h1 h5⟩
/-- from any allowed point to a corner with no less -/
theorem ge_vert {R : List ge_R} (hB : ge_B R) (f : ge_D) {p : ge_R} (hF : ge_F R p) : ∃ v, ge_V R v ∧ ge_up R f p v := by
  by_cases h : ∃ t ∈ R, ge_s t p = 0 ∧ ¬ (t.1 = 0 ∧ t.2.1 = 0 ∧ t.2.2.1 = 0)
  · obtain ⟨t, ht, st, hd⟩ := h
    exact ge_vert1 hB f hF ht st hd
  · obtain ⟨v, h1, t, ht, h2, h3⟩ := ge_step (d := (1, 0, 0)) hB f hF (fun w => absurd w.1 (by decide)) (fun t ht st => Classical.byContradiction (fun w => h ⟨t, ht, st, fun e => w (by simp only [ge_n]; rw [e.1, e.2.1, e.2.2]; omega)⟩))
    obtain ⟨u, h4, h5⟩ := ge_vert1 hB f h1.1 ht h3 (fun e => h2 (by simp only [ge_n]; rw [e.1, e.2.1, e.2.2]; omega))
    exact ⟨u, h4, ge_up_tr hF h1 h5⟩
/-- two points in one place -/
def ge_e (p q : ge_R) : Prop := p.1 * q.2.2.2 = q.1 * p.2.2.2 ∧ p.2.1 * q.2.2.2 = q.2.1 * p.2.2.2 ∧ p.2.2.1 * q.2.2.2 = q.2.2.1 * p.2.2.2
/-- the way from one point to another one, times both lower numbers -/
def ge_to (p q : ge_R) : ge_D := (q.1 * p.2.2.2 - p.1 * q.2.2.2, q.2.1 * p.2.2.2 - p.2.1 * q.2.2.2, q.2.2.1 * p.2.2.2 - p.2.2.1 * q.2.2.2)
theorem ge_to_n (r p q : ge_R) : ge_n r (ge_to p q) = ge_s r q * p.2.2.2 - ge_s r p * q.2.2.2 := by
  simp only [ge_n, ge_to, ge_s]
  grind
theorem ge_to_z {p q : ge_R} : ge_e p q ↔ ¬ ge_nz (ge_to p q) := by
  simp only [ge_e, ge_nz, ge_to]
  omega
/-- a way along which three rows that meet in a point are level is none -/
theorem ge_level {r q t : ge_R} {d : ge_D} (h1 : ge_n r d = 0) (h2 : ge_n q d = 0) (h3 : ge_n t d = 0) (hd : ge_det r q t ≠ 0) : ¬ ge_nz d := by
  intro hz
  apply hz
  have e1 : ge_det r q t * d.1 = ge_n r d * (ge_x q t).1 + ge_n q d * (ge_x t r).1 + ge_n t d * (ge_x r q).1 := by
    simp only [ge_det, ge_n, ge_x]
    grind
  have e2 : ge_det r q t * d.2.1 = ge_n r d * (ge_x q t).2.1 + ge_n q d * (ge_x t r).2.1 + ge_n t d * (ge_x r q).2.1 := by
    simp only [ge_det, ge_n, ge_x]
    grind
  have e3 : ge_det r q t * d.2.2 = ge_n r d * (ge_x q t).2.2 + ge_n q d * (ge_x t r).2.2 + ge_n t d * (ge_x r q).2.2 := by
    simp only [ge_det, ge_n, ge_x]
    grind
  rw [h1, h2, h3] at e1 e2 e3
  simp only [Int.zero_mul, Int.add_zero] at e1 e2 e3
  exact ⟨(Int.mul_eq_zero.mp e1).resolve_left hd, (Int.mul_eq_zero.mp e2).resolve_left hd, (Int.mul_eq_zero.mp e3).resolve_left hd⟩
/-- three tight rows tell the place -/
theorem ge_same {r q t p v : ge_R} (hd : ge_det r q t ≠ 0) (p1 : ge_s r p = 0) (p2 : ge_s q p = 0) (p3 : ge_s t p = 0) (v1 : ge_s r v = 0) (v2 : ge_s q v = 0) (v3 : ge_s t v = 0) : ge_e p v := by
  refine ge_to_z.mpr (ge_level (r := r) (q := q) (t := t) ?_ ?_ ?_ hd)
  · rw [ge_to_n, p1, v1]
    omega
  · rw [ge_to_n, p2, v2]
    omega
  · rw [ge_to_n, p3, v3]
    omega

/-! ===== geometry: points without a common divisor ===== -/
def ge_g (p : ge_R) : Nat := Nat.gcd (Int.gcd p.1 p.2.1) (Int.gcd p.2.2.1 p.2.2.2)
theorem ge_gm (a b c d k : Int) : Nat.gcd (Int.gcd (a * k) (b * k)) (Int.gcd (c * k) (d * k)) = Nat.gcd (Int.gcd a b) (Int.gcd c d) * k.natAbs := by
  simp only [Int.gcd, Int.natAbs_mul, Nat.gcd_mul_right]
/-- what goes into each part times k goes into k -/
theorem ge_div {p : ge_R} (hp : ge_g p = 1) {m k : Int} (h1 : m ∣ p.1 * k) (h2 : m ∣ p.2.1 * k) (h3 : m ∣ p.2.2.1 * k) (h4 : m ∣ p.2.2.2 * k) : m ∣ k := by
  have e := ge_gm p.1 p.2.1 p.2.2.1 p.2.2.2 k
  have hp : Nat.gcd (Int.gcd p.1 p.2.1) (Int.gcd p.2.2.1 p.2.2.2) = 1 := hp
  rw [hp, Nat.one_mul] at e
  rw [← Int.natAbs_dvd_natAbs] at *
  rw [← e]
  exact Nat.dvd_gcd (Nat.dvd_gcd h1 h2) (Nat.dvd_gcd h3 h4)
theorem ge_prim_w {p q : ge_R} (hp : ge_g p = 1) (he : ge_e p q) : p.2.2.2 ∣ q.2.2.2 := by
  refine ge_div hp ?_ ?_ ?_ (Int.dvd_mul_right _ _)
  · rw [he.1]
    exact Int.dvd_mul_left _ _
  · rw [he.2.1]
    exact Int.dvd_mul_left _ _
  · rw [he.2.2]
    exact Int.dvd_mul_left _ _
theorem ge_e_sym {p q : ge_R} (h : ge_e p q) : ge_e q p := ⟨h.1.symm, h.2.1.symm, h.2.2.symm⟩
theorem ge_dvd_anti {a b : Int} (ha : 0 < a) (hb : 0 < b) (h1 : a ∣ b) (h2 : b ∣ a) : a = b := by
  have := Int.le_of_dvd hb h1
  have := Int.le_of_dvd ha h2
  omega
theorem ge_prim {p q : ge_R} (hp : ge_g p = 1) (hq : ge_g q = 1) (wp : 0 < p.2.2.2) (wq : 0 < q.2.2.2) (he : ge_e p q) : p = q := by
  have e := ge_dvd_anti wp wq (ge_prim_w hp he) (ge_prim_w hq (ge_e_sym he))
  obtain ⟨p1, p2, p3, p4⟩ := p
  obtain ⟨q1, q2, q3, q4⟩ := q
  simp only at e wp wq
  subst e
  obtain ⟨h1, h2, h3⟩ := he
  simp only at h1 h2 h3
  have c : ∀ {a b : Int}, a * p4 = b * p4 → a = b := fun h => Int.eq_of_mul_eq_mul_right (by omega) h
  rw [c h1, c h2, c h3]
/-- the lower number of a corner goes into what its rows come to -/
theorem ge_low {r q t p : ge_R} (hp : ge_g p = 1) (s1 : ge_s r p = 0) (s2 : ge_s q p = 0) (s3 : ge_s t p = 0) : p.2.2.2 ∣ ge_det r q t := by
  refine ge_div hp ?_ ?_ ?_ (Int.dvd_mul_right _ _)
  · refine ⟨r.2.2.2 * (ge_x q t).1 + q.2.2.2 * (ge_x t r).1 + t.2.2.2 * (ge_x r q).1, ?_⟩
    simp only [ge_s] at s1 s2 s3
    simp only [ge_det, ge_n, ge_x]
    grind
  · refine ⟨r.2.2.2 * (ge_x q t).2.1 + q.2.2.2 * (ge_x t r).2.1 + t.2.2.2 * (ge_x r q).2.1, ?_⟩
    simp only [ge_s] at s1 s2 s3
    simp only [ge_det, ge_n, ge_x]
    grind
  · refine ⟨r.2.2.2 * (ge_x q t).2.2 + q.2.2.2 * (ge_x t r).2.2 + t.2.2.2 * (ge_x r q).2.2, ?_⟩
    simp only [ge_s] at s1 s2 s3
    simp only [ge_det, ge_n, ge_x]
    grind
def ge_sm (r : ge_R) : Prop := -3 ≤ r.1 ∧ r.1 ≤ 3 ∧ -3 ≤ r.2.1 ∧ r.2.1 ≤ 3 ∧ -3 ≤ r.2.2.1 ∧ r.2.2.1 ≤ 3
theorem ge_m3 {a x k : Int} (a0 : -3 ≤ a) (a1 : a ≤ 3) (x0 : -k ≤ x) (x1 : x ≤ k) : -(3 * k) ≤ a * x ∧ a * x ≤ 3 * k := by
  have h : a = -3 ∨ a = -2 ∨ a = -1 ∨ a = 0 ∨ a = 1 ∨ a = 2 ∨ a = 3 := by omega
  rcases h with h | h | h | h | h | h | h <;> subst h <;> omega
theorem ge_x_sm {r q : ge_R} (hr : ge_sm r) (hq : ge_sm q) : (-18 ≤ (ge_x r q).1 ∧ (ge_x r q).1 ≤ 18) ∧ (-18 ≤ (ge_x r q).2.1 ∧ (ge_x r q).2.1 ≤ 18) ∧ (-18 ≤ (ge_x r q).2.2 ∧ (ge_x r q).2.2 ≤ 18) := by
  obtain ⟨a1, a2, b1, b2, c1, c2⟩ := hr
  obtain ⟨d1, d2, e1, e2, f1, f2⟩ := hq
  simp only [ge_x]
  have h1 := ge_m3 b1 b2 (k := 3) f1 f2
  have h2 := ge_m3 c1 c2 (k := 3) e1 e2
  have h3 := ge_m3 c1 c2 (k := 3) d1 d2
  have h4 := ge_m3 a1 a2 (k := 3) f1 f2
  have h5 := ge_m3 a1 a2 (k := 3) e1 e2
  have h6 := ge_m3 b1 b2 (k := 3) d1 d2
  omega
theorem ge_det_sm {r q t : ge_R} (hr : ge_sm r) (hq : ge_sm q) (ht : ge_sm t) : -162 ≤ ge_det r q t ∧ ge_det r q t ≤ 162 := by
  obtain ⟨x1, x2, x3⟩ := ge_x_sm hr hq
  obtain ⟨a1, a2, b1, b2, c1, c2⟩ := ht
  have h1 := ge_m3 a1 a2 x1.1 x1.2
  have h2 := ge_m3 b1 b2 x2.1 x2.2
  have h3 := ge_m3 c1 c2 x3.1 x3.2
  simp only [ge_det, ge_n]
  omega
/-- lower numbers stay small -/
theorem ge_w_le {R : List ge_R} {p : ge_R} (hR : ∀ r ∈ R, ge_sm r) (hv : ge_V R p) (hp : ge_g p = 1) : p.2.2.2 ≤ 162 := by
  obtain ⟨hF, r, hr, q, hq, t, ht, s1, s2, s3, hd⟩ := hv
  obtain ⟨b1, b2⟩ := ge_det_sm (hR r hr) (hR q hq) (hR t ht)
  have h := ge_low hp s1 s2 s3
  by_cases h0 : 0 < ge_det r q t
  · have := Int.le_of_dvd h0 h
    omega
  · have := Int.le_of_dvd (show 0 < -ge_det r q t by omega) (Int.dvd_neg.mpr h)
    omega
/-! ===== geometry: what is efficient ===== -/
/-- each sum no less, one more -/
def ge_bt (F : List ge_D) (p q : ge_R) : Prop := (∀ f ∈ F, ge_f f p * q.2.2.2 ≤ ge_f f q * p.2.2.2) ∧ ∃ f ∈ F, ge_f f p * q.2.2.2 < ge_f f q * p.2.2.2
/-- the row: a sum no less than at p (p over 1) -/
def ge_no (f : ge_D) (p : ge_R) : ge_R := (-f.1, -f.2.1, -f.2.2, -ge_f f p)
theorem ge_no_s (f : ge_D) {p : ge_R} (hw : p.2.2.2 = 1) (q : ge_R) : ge_s (ge_no f p) q = ge_f f p * q.2.2.2 - ge_f f q * p.2.2.2 := by
  rw [hw]
  simp only [ge_s, ge_no]
  generalize ge_f f p = m
  simp only [ge_f]
  grind
def ge_sum (F : List ge_D) : ge_D := (F.foldr (fun f s => f.1 + s) 0, F.foldr (fun f s => f.2.1 + s) 0, F.foldr (fun f s => f.2.2 + s) 0)
theorem ge_sum_c (f : ge_D) (F : List ge_D) (p : ge_R) : ge_f (ge_sum (f :: F)) p = ge_f f p + ge_f (ge_sum F) p := by
  simp only [ge_sum, ge_f, List.foldr_cons]
  grind
theorem ge_sum_le : ∀ {F : List ge_D} {p q : ge_R}, (∀ f ∈ F, ge_f f p * q.2.2.2 ≤ ge_f f q * p.2.2.2) → ge_f (ge_sum F) p * q.2.2.2 ≤ ge_f (ge_sum F) q * p.2.2.2
  | [], p, q, _ => by
    simp only [ge_sum, ge_f, List.foldr_nil]
    grind
  | f :: F, p, q, h => by
    have h1 := h f List.mem_cons_self
    have h2 := ge_sum_le (F := F) (p := p) (q := q) (fun g hg => h g (List.mem_cons_of_mem _ hg))
    rw [ge_sum_c, ge_sum_c, Int.add_mul, Int.add_mul]
    omega
theorem ge_sum_lt : ∀ {F : List ge_D} {p q : ge_R}, ge_bt F p q → ge_f (ge_sum F) p * q.2.2.2 < ge_f (ge_sum F) q * p.2.2.2
  | [], p, q, h => by
    obtain ⟨f, hf, _⟩ := h.2
    exact absurd hf List.not_mem_nil
  | f :: F, p, q, h => by
    have h1 := h.1 f List.mem_cons_self
    have h3 : ∀ g ∈ F, ge_f g p * q.2.2.2 ≤ ge_f g q * p.2.2.2 := fun g hg => h.1 g (List.mem_cons_of_mem _ hg)
    rw [ge_sum_c, ge_sum_c, Int.add_mul, Int.add_mul]
    obtain ⟨g, hg, hl⟩ := h.2
    rcases List.mem_cons.mp hg with e | hg
    · subst e
      have := ge_sum_le h3
      omega
    · have := ge_sum_lt (F := F) (p := p) (q := q) ⟨h3, g, hg, hl⟩
      omega
/-- the sum of all is more only where one of them is -/
theorem ge_sum_ex : ∀ {F : List ge_D} {p q : ge_R}, ge_f (ge_sum F) p * q.2.2.2 < ge_f (ge_sum F) q * p.2.2.2 → ∃ f ∈ F, ge_f f p * q.2.2.2 < ge_f f q * p.2.2.2
  | [], p, q, h => by
    simp only [ge_sum, ge_f, List.foldr_nil] at h
    exact absurd h (by grind)
  | f :: F, p, q, h => by
    by_cases h1 : ge_f f p * q.2.2.2 < ge_f f q * p.2.2.2
    · exact ⟨f, List.mem_cons_self, h1⟩
    · rw [ge_sum_c, ge_sum_c, Int.add_mul, Int.add_mul] at h
      obtain ⟨g, hg, hl⟩ := ge_sum_ex (F := F) (p := p) (q := q) (by omega)
      exact ⟨g, List.mem_cons_of_mem _ hg, hl⟩
/-- a body cut to where each sum is no less than at p -/
def ge_up_R (R : List ge_R) (F : List ge_D) (p : ge_R) : List ge_R := F.map (fun f => ge_no f p) ++ R
theorem ge_up_F {R : List ge_R} {F : List ge_D} {p q : ge_R} (hw : p.2.2.2 = 1) : ge_F (ge_up_R R F p) q ↔ ge_F R q ∧ ∀ f ∈ F, ge_f f p * q.2.2.2 ≤ ge_f f q * p.2.2.2 := by
  constructor
  · intro h
    refine ⟨⟨h.1, fun r hr => h.2 r (List.mem_append_right _ hr)⟩, fun f hf => ?_⟩
    have := h.2 (ge_no f p) (List.mem_append_left _ (List.mem_map.mpr ⟨f, hf, rfl⟩))
    rw [ge_no_s f hw] at this
    omega
  · intro h
    refine ⟨h.1.1, fun r hr => ?_⟩
    rcases List.mem_append.mp hr with hr | hr
    · obtain ⟨f, hf, rfl⟩ := List.mem_map.mp hr
      rw [ge_no_s f hw]
      have := h.2 f hf
      omega
    · exact h.1.2 r hr
theorem ge_B_app {R Q : List ge_R} (hB : ge_B R) : ge_B (Q ++ R) := fun d hd => by
  obtain ⟨r, hr, h⟩ := hB d hd
  exact ⟨r, List.mem_append_right _ hr, h⟩
/-- a better one is there exactly where a corner of the cut body has more of all sums together -/
theorem ge_eff {R : List ge_R} (hB : ge_B R) {F : List ge_D} {p : ge_R} (hw : p.2.2.2 = 1) (hp : ge_F R p) : (∃ q, ge_F R q ∧ ge_bt F p q) ↔ ∃ v, ge_V (ge_up_R R F p) v ∧ ge_f (ge_sum F) p * v.2.2.2 < ge_f (ge_sum F) v * p.2.2.2 := by
  constructor
  · rintro ⟨q, hq, hb⟩
    obtain ⟨v, h1, h2, h3, h4⟩ := ge_vert (ge_B_app (Q := F.map (fun f => ge_no f p)) hB) (ge_sum F) (p := q) ((ge_up_F hw).mpr ⟨hq, hb.1⟩)
    refine ⟨v, h1, ?_⟩
    have h5 := ge_sum_lt hb
    have w1 := hq.1
    have w2 := h2.1
    have a1 := Int.mul_lt_mul_of_pos_right h5 w2
    have a2 := Int.mul_le_mul_of_nonneg_right h4 (Int.le_of_lt hp.1)
    apply Int.lt_of_mul_lt_mul_right (a := q.2.2.2) _ (Int.le_of_lt w1)
    have e1 : ge_f (ge_sum F) p * v.2.2.2 * q.2.2.2 = ge_f (ge_sum F) p * q.2.2.2 * v.2.2.2 := by grind
    have e2 : ge_f (ge_sum F) v * p.2.2.2 * q.2.2.2 = ge_f (ge_sum F) v * q.2.2.2 * p.2.2.2 := by grind
    have e3 : ge_f (ge_sum F) q * p.2.2.2 * v.2.2.2 = ge_f (ge_sum F) q * v.2.2.2 * p.2.2.2 := by grind
    omega
  · rintro ⟨v, hv, hl⟩
    have h := (ge_up_F hw).mp hv.1
    exact ⟨v, h.1, h.2, ge_sum_ex hl⟩

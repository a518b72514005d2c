/-! ===== the reference's box is a body ===== -/
def jm_ei (i : Nat) : ge_D := if i = 0 then (1, 0, 0) else if i = 1 then (0, 1, 0) else (0, 0, 1)
def jm_lo (i : Nat) : ge_R := (-(jm_ei i).1, -(jm_ei i).2.1, -(jm_ei i).2.2, 0)
def jm_hi (i : Nat) (B : Int) : ge_R := ((jm_ei i).1, (jm_ei i).2.1, (jm_ei i).2.2, B)
/-- the box's planes by their bits: K keeps are ahead -/
def jm_be (K q : Nat) (B : Nat → Int) : List (Nat × ge_R) := (List.range q).flatMap (fun i => [(K + i, jm_lo i), (K + q + i, jm_hi i (B i))])
theorem jm_be_mem {K q : Nat} {B : Nat → Int} {b : Nat} {r : ge_R} : (b, r) ∈ jm_be K q B ↔ ∃ i, i < q ∧ (b = K + i ∧ r = jm_lo i ∨ b = K + q + i ∧ r = jm_hi i (B i)) := by
  unfold jm_be
  rw [List.mem_flatMap]
  constructor
  · rintro ⟨i, hi, h⟩
    simp only [List.mem_cons, List.not_mem_nil, or_false, Prod.mk.injEq] at h
    exact ⟨i, List.mem_range.mp hi, h⟩
  · rintro ⟨i, hi, h⟩
    refine ⟨i, List.mem_range.mpr hi, ?_⟩
    simp only [List.mem_cons, List.not_mem_nil, or_false, Prod.mk.injEq]
    exact h
/-- the box's rows, of a quantity that is not there with 0 -/
def ge_box (a b c : Int) : List ge_R := [(-1, 0, 0, 0), (1, 0, 0, a), (0, -1, 0, 0), (0, 1, 0, b), (0, 0, -1, 0), (0, 0, 1, c)]
theorem ge_F_iff {R R' : List ge_R} (h : ∀ r, r ∈ R ↔ r ∈ R') (p : ge_R) : ge_F R p ↔ ge_F R' p := ⟨fun a => ⟨a.1, fun r hr => a.2 r ((h r).mpr hr)⟩, fun a => ⟨a.1, fun r hr => a.2 r ((h r).mp hr)⟩⟩
theorem ge_V_iff {R R' : List ge_R} (h : ∀ r, r ∈ R ↔ r ∈ R') (p : ge_R) : ge_V R p ↔ ge_V R' p := by
  constructor
  · rintro ⟨a, r, hr, t, ht, u, hu, s⟩
    exact ⟨(ge_F_iff h p).mp a, r, (h r).mp hr, t, (h t).mp ht, u, (h u).mp hu, s⟩
  · rintro ⟨a, r, hr, t, ht, u, hu, s⟩
    exact ⟨(ge_F_iff h p).mpr a, r, (h r).mpr hr, t, (h t).mpr ht, u, (h u).mpr hu, s⟩
theorem ge_box_B {a b c : Int} : ge_B (ge_box a b c) := by
  intro d hd
  by_cases h1 : 0 < d.1
  · exact ⟨(1, 0, 0, a), by simp [ge_box], by simp only [ge_n]; omega⟩
  by_cases h2 : d.1 < 0
  · exact ⟨(-1, 0, 0, 0), by simp [ge_box], by simp only [ge_n]; omega⟩
  by_cases h3 : 0 < d.2.1
  · exact ⟨(0, 1, 0, b), by simp [ge_box], by simp only [ge_n]; omega⟩
  by_cases h4 : d.2.1 < 0
  · exact ⟨(0, -1, 0, 0), by simp [ge_box], by simp only [ge_n]; omega⟩
  by_cases h5 : 0 < d.2.2
  · exact ⟨(0, 0, 1, c), by simp [ge_box], by simp only [ge_n]; omega⟩
  · exact ⟨(0, 0, -1, 0), by simp [ge_box], by simp only [ge_n]; omega⟩
theorem ge_box_mem {a b c : Int} {r : ge_R} : r ∈ ge_box a b c ↔ r = (-1, 0, 0, 0) ∨ r = (1, 0, 0, a) ∨ r = (0, -1, 0, 0) ∨ r = (0, 1, 0, b) ∨ r = (0, 0, -1, 0) ∨ r = (0, 0, 1, c) := by
  simp [ge_box]
/-- a corner of the box: each quantity nothing or all -/
theorem ge_box_V {a b c : Int} {v : ge_R} (hv : ge_V (ge_box a b c) v) : 0 < v.2.2.2 ∧ (v.1 = 0 ∨ v.1 = a * v.2.2.2) ∧ (v.2.1 = 0 ∨ v.2.1 = b * v.2.2.2) ∧ (v.2.2.1 = 0 ∨ v.2.2.1 = c * v.2.2.2) := by
  obtain ⟨hF, r, hr, q, hq, t, ht, s1, s2, s3, hd⟩ := hv
  refine ⟨hF.1, ?_, ?_, ?_⟩
  · apply Classical.byContradiction
    intro h
    have z : ∀ r ∈ ge_box a b c, ge_s r v = 0 → r.1 = 0 := by
      intro r hr hs
      rcases ge_box_mem.mp hr with rfl | rfl | rfl | rfl | rfl | rfl
      · simp only [ge_s] at hs
        exact absurd (.inl (by omega)) h
      · simp only [ge_s] at hs
        exact absurd (.inr (by omega)) h
      all_goals rfl
    apply hd
    simp only [ge_det, ge_n, ge_x]
    rw [z r hr s1, z q hq s2, z t ht s3]
    omega
  · apply Classical.byContradiction
    intro h
    have z : ∀ r ∈ ge_box a b c, ge_s r v = 0 → r.2.1 = 0 := by
      intro r hr hs
      rcases ge_box_mem.mp hr with rfl | rfl | rfl | rfl | rfl | rfl
      · rfl
      · rfl
      · simp only [ge_s] at hs
        exact absurd (.inl (by omega)) h
      · simp only [ge_s] at hs
        exact absurd (.inr (by omega)) h
      all_goals rfl
    apply hd
    simp only [ge_det, ge_n, ge_x]
    rw [z r hr s1, z q hq s2, z t ht s3]
    omega
  · apply Classical.byContradiction
    intro h
    have z : ∀ r ∈ ge_box a b c, ge_s r v = 0 → r.2.2.1 = 0 := by
      intro r hr hs
      rcases ge_box_mem.mp hr with rfl | rfl | rfl | rfl | rfl | rfl
      · rfl
      · rfl
      · rfl
      · rfl
      · simp only [ge_s] at hs
        exact absurd (.inl (by omega)) h
      · simp only [ge_s] at hs
        exact absurd (.inr (by omega)) h
    apply hd
    simp only [ge_det, ge_n, ge_x]
    rw [z r hr s1, z q hq s2, z t ht s3]
    omega
theorem ge_V_box {a b c x y z : Int} (a0 : 0 ≤ a) (b0 : 0 ≤ b) (c0 : 0 ≤ c) (hx : x = 0 ∨ x = a) (hy : y = 0 ∨ y = b) (hz : z = 0 ∨ z = c) : ge_V (ge_box a b c) (x, y, z, 1) := by
  refine ⟨⟨by show (0 : Int) < 1; omega, fun r hr => ?_⟩, ?_⟩
  · rcases ge_box_mem.mp hr with rfl | rfl | rfl | rfl | rfl | rfl <;> simp only [ge_s] <;> omega
  · have tx : ∃ r ∈ ge_box a b c, ge_s r (x, y, z, 1) = 0 ∧ (r.1 = 1 ∨ r.1 = -1) ∧ r.2.1 = 0 ∧ r.2.2.1 = 0 := by
      rcases hx with h | h
      · exact ⟨(-1, 0, 0, 0), by simp [ge_box], by simp only [ge_s]; omega, .inr rfl, rfl, rfl⟩
      · exact ⟨(1, 0, 0, a), by simp [ge_box], by simp only [ge_s]; omega, .inl rfl, rfl, rfl⟩
    have ty : ∃ r ∈ ge_box a b c, ge_s r (x, y, z, 1) = 0 ∧ (r.2.1 = 1 ∨ r.2.1 = -1) ∧ r.1 = 0 ∧ r.2.2.1 = 0 := by
      rcases hy with h | h
      · exact ⟨(0, -1, 0, 0), by simp [ge_box], by simp only [ge_s]; omega, .inr rfl, rfl, rfl⟩
      · exact ⟨(0, 1, 0, b), by simp [ge_box], by simp only [ge_s]; omega, .inl rfl, rfl, rfl⟩
    have tz : ∃ r ∈ ge_box a b c, ge_s r (x, y, z, 1) = 0 ∧ (r.2.2.1 = 1 ∨ r.2.2.1 = -1) ∧ r.1 = 0 ∧ r.2.1 = 0 := by
      rcases hz with h | h
      · exact ⟨(0, 0, -1, 0), by simp [ge_box], by simp only [ge_s]; omega, .inr rfl, rfl, rfl⟩
      · exact ⟨(0, 0, 1, c), by simp [ge_box], by simp only [ge_s]; omega, .inl rfl, rfl, rfl⟩
    obtain ⟨r, hr, s1, r1, r2, r3⟩ := tx
    obtain ⟨q, hq, s2, q1, q2, q3⟩ := ty
    obtain ⟨t, ht, s3, t1, t2, t3⟩ := tz
    refine ⟨r, hr, q, hq, t, ht, s1, s2, s3, ?_⟩
    simp only [ge_det, ge_n, ge_x]
    rw [r2, r3, q2, q3, t2, t3]
    rcases r1 with r1 | r1 <;> rcases q1 with q1 | q1 <;> rcases t1 with t1 | t1 <;> rw [r1, q1, t1] <;> omega
/-- the rows of the box, seen as one box -/
def jm_Bq (q : Nat) (B : Nat → Int) (i : Nat) : Int := if i < q then B i else 0
theorem jm_box_rows {K q : Nat} {B : Nat → Int} (q1 : 1 ≤ q) (q3 : q ≤ 3) (r : ge_R) : r ∈ jm_RR (q : Int) (jm_be K q B) ↔ r ∈ ge_box (jm_Bq q B 0) (jm_Bq q B 1) (jm_Bq q B 2) := by
  have h : q = 1 ∨ q = 2 ∨ q = 3 := by omega
  rcases h with rfl | rfl | rfl
  · simp [jm_RR, jm_be, jm_vr, ge_box, jm_Bq, jm_lo, jm_hi, jm_ei, List.range_succ]
    grind
  · simp [jm_RR, jm_be, jm_vr, ge_box, jm_Bq, jm_lo, jm_hi, jm_ei, List.range_succ]
    grind
  · simp [jm_RR, jm_be, jm_vr, ge_box, jm_Bq, jm_lo, jm_hi, jm_ei, List.range_succ]

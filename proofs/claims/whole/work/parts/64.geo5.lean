/-! ===== geometry: what is efficient hangs on what is tight ===== -/
def ge_ln (r : ge_R) : ge_R := (r.1, r.2.1, r.2.2.1, 0)
def ge_lf (f : ge_D) : ge_R := (-f.1, -f.2.1, -f.2.2, 0)
def ge_of (p : ge_R) : ge_D := (p.1, p.2.1, p.2.2.1)
theorem ge_ln_s (r p : ge_R) : ge_s (ge_ln r) p = ge_n r (ge_of p) := by
  simp only [ge_s, ge_ln, ge_n, ge_of]
  omega
theorem ge_lf_s (f : ge_D) (p : ge_R) : ge_s (ge_lf f) p = - ge_f f p := by
  simp only [ge_s, ge_lf, ge_f]
  grind
def ge_bx (b : ge_D) : List ge_R := [(1, 0, 0, b.1), (-1, 0, 0, b.1), (0, 1, 0, b.2.1), (0, -1, 0, b.2.1), (0, 0, 1, b.2.2), (0, 0, -1, b.2.2)]
/-- the ways from where these rows are tight, with no sum less, none too long -/
def ge_wy (T : List ge_R) (F : List ge_D) (b : ge_D) : List ge_R := T.map ge_ln ++ (F.map ge_lf ++ ge_bx b)
theorem ge_bx_B (b : ge_D) : ge_B (ge_bx b) := by
  intro d hd
  by_cases h1 : 0 < d.1
  · exact ⟨(1, 0, 0, b.1), by simp [ge_bx], by simp only [ge_n]; omega⟩
  by_cases h2 : d.1 < 0
  · exact ⟨(-1, 0, 0, b.1), by simp [ge_bx], by simp only [ge_n]; omega⟩
  by_cases h3 : 0 < d.2.1
  · exact ⟨(0, 1, 0, b.2.1), by simp [ge_bx], by simp only [ge_n]; omega⟩
  by_cases h4 : d.2.1 < 0
  · exact ⟨(0, -1, 0, b.2.1), by simp [ge_bx], by simp only [ge_n]; omega⟩
  by_cases h5 : 0 < d.2.2
  · exact ⟨(0, 0, 1, b.2.2), by simp [ge_bx], by simp only [ge_n]; omega⟩
  · exact ⟨(0, 0, -1, b.2.2), by simp [ge_bx], by simp only [ge_n]; omega⟩
theorem ge_wy_F {T : List ge_R} {F : List ge_D} {b : ge_D} {v : ge_R} : ge_F (ge_wy T F b) v ↔ 0 < v.2.2.2 ∧ (∀ r ∈ T, ge_n r (ge_of v) ≤ 0) ∧ (∀ f ∈ F, 0 ≤ ge_f f v) ∧ (v.1 ≤ b.1 * v.2.2.2 ∧ -v.1 ≤ b.1 * v.2.2.2 ∧ v.2.1 ≤ b.2.1 * v.2.2.2 ∧ -v.2.1 ≤ b.2.1 * v.2.2.2 ∧ v.2.2.1 ≤ b.2.2 * v.2.2.2 ∧ -v.2.2.1 ≤ b.2.2 * v.2.2.2) := by
  have hb : (∀ r ∈ ge_bx b, ge_s r v ≤ 0) ↔ (v.1 ≤ b.1 * v.2.2.2 ∧ -v.1 ≤ b.1 * v.2.2.2 ∧ v.2.1 ≤ b.2.1 * v.2.2.2 ∧ -v.2.1 ≤ b.2.1 * v.2.2.2 ∧ v.2.2.1 ≤ b.2.2 * v.2.2.2 ∧ -v.2.2.1 ≤ b.2.2 * v.2.2.2) := by
    simp only [ge_bx, List.forall_mem_cons, ge_s, List.not_mem_nil, false_implies, implies_true, and_true]
    omega
  constructor
  · rintro ⟨h0, h⟩
    refine ⟨h0, fun r hr => ?_, fun f hf => ?_, hb.mp (fun r hr => h r (List.mem_append_right _ (List.mem_append_right _ hr)))⟩
    · have := h (ge_ln r) (List.mem_append_left _ (List.mem_map.mpr ⟨r, hr, rfl⟩))
      rwa [ge_ln_s] at this
    · have := h (ge_lf f) (List.mem_append_right _ (List.mem_append_left _ (List.mem_map.mpr ⟨f, hf, rfl⟩)))
      rw [ge_lf_s] at this
      omega
  · rintro ⟨h0, h1, h2, h3⟩
    refine ⟨h0, fun r hr => ?_⟩
    rcases List.mem_append.mp hr with hr | hr
    · obtain ⟨t, ht, rfl⟩ := List.mem_map.mp hr
      rw [ge_ln_s]
      exact h1 t ht
    · rcases List.mem_append.mp hr with hr | hr
      · obtain ⟨f, hf, rfl⟩ := List.mem_map.mp hr
        rw [ge_lf_s]
        have := h2 f hf
        omega
      · exact hb.mpr h3 r hr
theorem ge_most (d : ge_D) : ∀ R : List ge_R, ∃ K : Int, 0 < K ∧ ∀ r ∈ R, ge_n r d ≤ K
  | [] => ⟨1, by omega, fun r h => absurd h List.not_mem_nil⟩
  | r0 :: R => by
    obtain ⟨K, h0, hK⟩ := ge_most d R
    refine ⟨K + (ge_n r0 d).natAbs, by omega, fun r hr => ?_⟩
    rcases List.mem_cons.mp hr with e | hr
    · subst e
      omega
    · have := hK r hr
      omega
/-- some way makes one sum more, none less, just where a corner of the ways does -/
theorem ge_risen {R : List ge_R} {F : List ge_D} {b : ge_D} {p : ge_R} {f : ge_D} (hp : ge_F R p) (hf : f ∈ F) (hb : ∀ q, ge_F R q → (b.1 = 1 ∨ b.1 = 0 ∧ (ge_to p q).1 = 0) ∧ (b.2.1 = 1 ∨ b.2.1 = 0 ∧ (ge_to p q).2.1 = 0) ∧ (b.2.2 = 1 ∨ b.2.2 = 0 ∧ (ge_to p q).2.2 = 0)) : (∃ q, ge_F R q ∧ (∀ g ∈ F, ge_f g p * q.2.2.2 ≤ ge_f g q * p.2.2.2) ∧ ge_f f p * q.2.2.2 < ge_f f q * p.2.2.2) ↔ ∃ v, ge_V (ge_wy (R.filter (fun r => decide (ge_s r p = 0))) F b) v ∧ 0 < ge_f f v := by
  constructor
  · rintro ⟨q, hq, hg, hl⟩
    generalize hd : ge_to p q = d
    have hF : ge_F (ge_wy (R.filter (fun r => decide (ge_s r p = 0))) F b) (d.1, d.2.1, d.2.2, 1 + d.1.natAbs + d.2.1.natAbs + d.2.2.natAbs) := by
      refine ge_wy_F.mpr ⟨by simp only; omega, fun r hr => ?_, fun g hg1 => ?_, ?_⟩
      · obtain ⟨hr, ht⟩ := List.mem_filter.mp hr
        have ht := of_decide_eq_true ht
        show ge_n r d ≤ 0
        rw [← hd, ge_to_n, ht]
        have := ge_mul_np (hq.2 r hr) (Int.le_of_lt hp.1)
        omega
      · have e : ge_f g (d.1, d.2.1, d.2.2, 1 + d.1.natAbs + d.2.1.natAbs + d.2.2.natAbs) = ge_fd g d := rfl
        have := hg g hg1
        have e2 := ge_fd_to g p q
        rw [hd] at e2
        rw [e]
        omega
      · obtain ⟨b1, b2, b3⟩ := hb q hq
        rw [hd] at b1 b2 b3
        simp only
        rcases b1 with b1 | ⟨b1, z1⟩ <;> rcases b2 with b2 | ⟨b2, z2⟩ <;> rcases b3 with b3 | ⟨b3, z3⟩ <;> rw [b1, b2, b3] <;> omega
    obtain ⟨v, h1, h2, h3, h4⟩ := ge_vert (ge_B_app (Q := (R.filter (fun r => decide (ge_s r p = 0))).map ge_ln) (ge_B_app (Q := F.map ge_lf) (ge_bx_B b))) f hF
    refine ⟨v, h1, ?_⟩
    have e : ge_f f (d.1, d.2.1, d.2.2, 1 + (d.1.natAbs : Int) + d.2.1.natAbs + d.2.2.natAbs) = ge_fd f d := rfl
    have e2 := ge_fd_to f p q
    rw [hd] at e2
    rw [e] at h4
    simp only at h4
    have h5 : 0 < ge_fd f d := by omega
    have h6 := Int.mul_pos h5 h2.1
    have h7 : 0 < ge_f f v * (1 + (d.1.natAbs : Int) + d.2.1.natAbs + d.2.2.natAbs) := by omega
    apply Classical.byContradiction
    intro hn
    have := ge_mul_np (show ge_f f v ≤ 0 by omega) (show 0 ≤ 1 + (d.1.natAbs : Int) + d.2.1.natAbs + d.2.2.natAbs by omega)
    omega
  · rintro ⟨v, hv, hl⟩
    obtain ⟨h0, h1, h2, -⟩ := ge_wy_F.mp hv.1
    obtain ⟨K, k0, hK⟩ := ge_most (ge_of v) R
    have hs : ∀ r, ge_s r (K * p.1 + v.1, K * p.2.1 + v.2.1, K * p.2.2.1 + v.2.2.1, K * p.2.2.2) = K * ge_s r p + ge_n r (ge_of v) := by
      intro r
      simp only [ge_s, ge_n, ge_of]
      grind
    have hg : ∀ g : ge_D, ge_f g (K * p.1 + v.1, K * p.2.1 + v.2.1, K * p.2.2.1 + v.2.2.1, K * p.2.2.2) * p.2.2.2 - ge_f g p * (K * p.2.2.2) = ge_f g v * p.2.2.2 := by
      intro g
      simp only [ge_f]
      grind
    refine ⟨(K * p.1 + v.1, K * p.2.1 + v.2.1, K * p.2.2.1 + v.2.2.1, K * p.2.2.2), ⟨Int.mul_pos k0 hp.1, fun r hr => ?_⟩, fun g hg1 => ?_, ?_⟩
    · rw [hs]
      by_cases ht : ge_s r p = 0
      · have := h1 r (List.mem_filter.mpr ⟨hr, decide_eq_true ht⟩)
        rw [ht]
        omega
      · have h3 := hp.2 r hr
        have h4 := Int.mul_le_mul_of_nonneg_left (show ge_s r p ≤ -1 by omega) (Int.le_of_lt k0)
        have := hK r hr
        omega
    · have h3 := hg g
      have h4 := Int.mul_nonneg (h2 g hg1) (Int.le_of_lt hp.1)
      simp only at h3 ⊢
      omega
    · have h3 := hg f
      have h4 := Int.mul_pos hl hp.1
      simp only at h3 ⊢
      omega

/-! ===== the class: the ways' corners tell which wishes can be more ===== -/
/-- the planes' rows by their bits -/
theorem jx_bA_row {μ : jw_H} (hP : jm_Pb μ) {b : Nat} {r : ge_R} : (b, r) ∈ jm_bA μ ↔ (b : Int) < μ 103 5 + 2 * μ 103 3 ∧ r = jx_row μ (b : Int) := by
  have hq := hP.1
  have hk := hP.2.2.1
  have er : ∀ k : Int, jx_row μ k = jx_rn μ k (jm_if μ k) := fun _ => rfl
  have lo := fun (i : Nat) (hi : (i : Int) < μ 103 3) => jx_rn_lo (i := i) (ra := -1) hP hi (by omega)
  have hi' := fun (i : Nat) (hi : (i : Int) < μ 103 3) => jx_rn_hi (i := i) (ra := -1) hP hi (by omega)
  unfold jm_bA
  rw [jm_bk_mem, er]
  constructor
  · rintro (⟨h1, h2, h3⟩ | h)
    · refine ⟨by omega, ?_⟩
      rw [h3, if_neg (by omega), ← jx_rn_keep hP (by omega) (by omega), Int.add_zero]
    · obtain ⟨i, hi, ⟨h1, h⟩ | ⟨h1, h⟩⟩ := jm_be_mem.mp h
      · refine ⟨by omega, ?_⟩
        have := lo i (by omega)
        rw [if_neg (by omega), Int.add_zero] at this
        rw [h, ← this, show (b : Int) = μ 103 5 + i by omega]
      · refine ⟨by omega, ?_⟩
        have := hi' i (by omega)
        rw [if_neg (by omega), Int.add_zero] at this
        rw [h, ← this, show (b : Int) = μ 103 5 + μ 103 3 + i by omega]
  · rintro ⟨h1, h2⟩
    by_cases c1 : (b : Int) < μ 103 5
    · refine .inl ⟨by omega, by omega, ?_⟩
      rw [h2, if_neg (by omega), ← jx_rn_keep hP (by omega) (by omega), Int.add_zero]
    · by_cases c2 : (b : Int) < μ 103 5 + μ 103 3
      · refine .inr (jm_be_mem.mpr ⟨b - (μ 103 5).toNat, by omega, .inl ⟨by omega, ?_⟩⟩)
        have := lo (b - (μ 103 5).toNat) (by omega)
        rw [show μ 103 5 + ((b - (μ 103 5).toNat : Nat) : Int) = b by omega, if_neg (by omega), Int.add_zero] at this
        rw [h2, this]
      · refine .inr (jm_be_mem.mpr ⟨b - (μ 103 5).toNat - (μ 103 3).toNat, by omega, .inr ⟨by omega, ?_⟩⟩)
        have := hi' (b - (μ 103 5).toNat - (μ 103 3).toNat) (by omega)
        rw [show μ 103 5 + μ 103 3 + ((b - (μ 103 5).toNat - (μ 103 3).toNat : Nat) : Int) = b by omega, if_neg (by omega), Int.add_zero] at this
        rw [h2, this]
theorem jx_tt_tau {μ : jw_H} (hP : jm_Pb μ) {v : ge_R} {t : Int} : jx_tt μ v (μ 103 5 + 2 * μ 103 3) t ↔ jm_tau (jm_bA μ) v t ∧ ∀ b : Nat, 20 ≤ b → ¬ jb_in t b := by
  have hq := hP.1
  have hk := hP.2.2.1
  have key : ∀ b : Nat, (∃ r, (b, r) ∈ jm_bA μ ∧ ge_s r v = 0) ↔ (b : Int) < μ 103 5 + 2 * μ 103 3 ∧ ge_s (jx_pr μ (b : Int)) v = 0 := fun b => by
    constructor
    · rintro ⟨r, h1, h2⟩
      obtain ⟨h3, rfl⟩ := (jx_bA_row hP).mp h1
      exact ⟨h3, (jx_row_z μ _ v).mp h2⟩
    · rintro ⟨h1, h2⟩
      exact ⟨_, (jx_bA_row hP).mpr ⟨h1, rfl⟩, (jx_row_z μ _ v).mpr h2⟩
  constructor
  · rintro ⟨h1, h2⟩
    refine ⟨⟨h1.1, h1.2, fun b _ => (h2 b).trans (key b).symm⟩, fun b hb hh => ?_⟩
    have := ((h2 b).mp hh).1
    omega
  · rintro ⟨⟨h1, h2, h3⟩, h4⟩
    refine ⟨⟨h1, h2⟩, fun b => ?_⟩
    by_cases hb : b < 20
    · exact (h3 b hb).trans (key b)
    · exact ⟨fun hh => absurd hh (h4 b (by omega)), fun hh => by omega⟩
/-- bits tell a number -/
theorem jx_bits {s t : Int} (hs : 0 ≤ s) (ht : 0 ≤ t) (h : ∀ b : Nat, jb_in s b ↔ jb_in t b) : s = t := by
  have : s.toNat = t.toNat := Nat.eq_of_testBit_eq (fun i => by
    have := h i
    unfold jb_in at this
    cases h1 : s.toNat.testBit i <;> cases h2 : t.toNat.testBit i <;> simp_all)
  omega
theorem jx_big {t : Int} (ht : 0 ≤ t ∧ t ≤ 1048575) {b : Nat} (hb : 20 ≤ b) : ¬ jb_in t b := by
  unfold jb_in
  have : t.toNat < 2 ^ b := Nat.lt_of_lt_of_le (show t.toNat < 2 ^ 20 by omega) (Nat.pow_le_pow_right (by decide) hb)
  rw [Nat.testBit_lt_two_pow this]
  decide
theorem jx_tau_uq {β : List (Nat × ge_R)} {v : ge_R} {s t : Int} (hs : jm_tau β v s) (ht : jm_tau β v t) : s = t := by
  refine jx_bits hs.1 ht.1 (fun b => ?_)
  by_cases hb : b < 20
  · exact (hs.2.2 b hb).trans (ht.2.2 b hb).symm
  · exact ⟨fun h => absurd h (jx_big ⟨hs.1, hs.2.1⟩ (by omega)), fun h => absurd h (jx_big ⟨ht.1, ht.2.1⟩ (by omega))⟩
/-- the class's ways -/
noncomputable def jx_WY (μ : jw_H) (t : Int) : List ge_R := jx_wW μ (fun _ => 0) (jx_wL μ t (μ 103 5 + 2 * μ 103 3).toNat) (μ 103 4).toNat ++ jx_wx (μ 103 3)
def jx_wp (q : Int) : List ge_R := if q = 1 then [(-1, 0, 0, 1), (1, 0, 0, 1)] else if q = 2 then [(-1, 0, 0, 1), (1, 0, 0, 1), (0, -1, 0, 1), (0, 1, 0, 1)] else [(-1, 0, 0, 1), (1, 0, 0, 1), (0, -1, 0, 1), (0, 1, 0, 1), (0, 0, -1, 1), (0, 0, 1, 1)]
def jx_wb (q : Int) : ge_D := (1, if 2 ≤ q then 1 else 0, if 3 ≤ q then 1 else 0)
theorem jx_WY_mem {μ : jw_H} {t : Int} (hP : jm_Pb μ) (r : ge_R) : r ∈ jx_WY μ t ↔ r ∈ (jx_wW μ (fun _ => 0) (jx_wL μ t (μ 103 5 + 2 * μ 103 3).toNat) (μ 103 4).toNat ++ jx_wp (μ 103 3)) ++ jx_nx (μ 103 3) := by
  have hq := hP.1
  have e : ∀ q : Int, q = 1 ∨ q = 2 ∨ q = 3 → (r ∈ jx_wx q ↔ r ∈ jx_wp q ∨ r ∈ jx_nx q) := by
    rintro q (rfl | rfl | rfl)
    · have e1 : jx_wx 1 = [(-1, 0, 0, 1), (1, 0, 0, 1), (0, -1, 0, 0), (0, 0, -1, 0)] := rfl
      have e2 : jx_nx 1 = [(0, -1, 0, 0), (0, 0, -1, 0)] := rfl
      have e3 : jx_wp 1 = [(-1, 0, 0, 1), (1, 0, 0, 1)] := rfl
      rw [e1, e2, e3]
      simp only [List.mem_cons, List.not_mem_nil, or_false]
      grind
    · have e1 : jx_wx 2 = [(-1, 0, 0, 1), (1, 0, 0, 1), (0, -1, 0, 1), (0, 1, 0, 1), (0, 0, -1, 0)] := rfl
      have e2 : jx_nx 2 = [(0, 0, -1, 0)] := rfl
      have e3 : jx_wp 2 = [(-1, 0, 0, 1), (1, 0, 0, 1), (0, -1, 0, 1), (0, 1, 0, 1)] := rfl
      rw [e1, e2, e3]
      simp only [List.mem_cons, List.not_mem_nil, or_false]
      grind
    · have e1 : jx_wx 3 = [(-1, 0, 0, 1), (1, 0, 0, 1), (0, -1, 0, 1), (0, 1, 0, 1), (0, 0, -1, 1), (0, 0, 1, 1)] := rfl
      have e2 : jx_nx 3 = [] := rfl
      have e3 : jx_wp 3 = [(-1, 0, 0, 1), (1, 0, 0, 1), (0, -1, 0, 1), (0, 1, 0, 1), (0, 0, -1, 1), (0, 0, 1, 1)] := rfl
      rw [e1, e2, e3]
      simp only [List.mem_cons, List.not_mem_nil, or_false]
  unfold jx_WY
  rw [List.mem_append, e (μ 103 3) (by omega), List.mem_append, List.mem_append]
  grind
theorem jx_rn_flat {μ : jw_H} {k m : Int} (hP : jm_Pb μ) (k0 : 0 ≤ k) (k1 : k < μ 103 5 + 2 * μ 103 3) : ((μ 103 3 ≤ 2 → (jx_rn μ k m).2.2.1 = 0) ∧ (μ 103 3 ≤ 1 → (jx_rn μ k m).2.1 = 0)) ∧ ge_sm (jx_rn μ k m) := by
  have hk := hP.2.2.1
  have h : (k.toNat, jx_row μ k) ∈ jm_bA μ := (jx_bA_row hP).mpr ⟨by omega, by rw [Int.toNat_of_nonneg k0]⟩
  have a := jx_bk_flat hP (by omega) h
  have b := (jm_bk_bnd (wo := -1) (mo := -1) hP (k := (μ 103 5).toNat) (by omega)).1 _ _ h
  exact ⟨a, b⟩
theorem jx_W_flat {μ : jw_H} {w : Int} (hP : jm_Pb μ) (w0 : 0 ≤ w) (w1 : w < μ 103 4) : (μ 103 3 ≤ 2 → (jm_W μ w).2.2 = 0) ∧ (μ 103 3 ≤ 1 → (jm_W μ w).2.1 = 0) := by
  have h := hP.2.2.2.2.2 w w0 w1
  exact ⟨fun hq => (h 2 (by omega) (by omega)).2.2 (by omega), fun hq => (h 1 (by omega) (by omega)).2.2 (by omega)⟩
theorem jx_wr_sm {μ : jw_H} {w m : Int} (hP : jm_Pb μ) (w0 : 0 ≤ w) (w1 : w < μ 103 4) : ge_sm (jx_wr μ w m) := by
  have h := jm_W_sm hP w0 w1
  unfold ge_sm jx_wr
  simp only
  omega
theorem jx_wp_ok {q : Int} (q1 : 1 ≤ q) (q3 : q ≤ 3) {r : ge_R} (h : r ∈ jx_wp q) : ((q ≤ 2 → r.2.2.1 = 0) ∧ (q ≤ 1 → r.2.1 = 0)) ∧ jx_rb r := by
  rcases (show q = 1 ∨ q = 2 ∨ q = 3 by omega) with rfl | rfl | rfl
  · simp only [jx_wp, if_true, List.mem_cons, List.not_mem_nil, or_false] at h
    rcases h with rfl | rfl <;> (unfold jx_rb ge_sm; simp)
  · simp only [jx_wp, show ¬ ((2 : Int) = 1) by omega, if_false, if_true, List.mem_cons, List.not_mem_nil, or_false] at h
    rcases h with rfl | rfl | rfl | rfl <;> (unfold jx_rb ge_sm; simp)
  · simp only [jx_wp, show ¬ ((3 : Int) = 1) by omega, show ¬ ((3 : Int) = 2) by omega, if_false, List.mem_cons, List.not_mem_nil, or_false] at h
    rcases h with rfl | rfl | rfl | rfl | rfl | rfl <;> (unfold jx_rb ge_sm; simp)
theorem jx_nx_rb {q : Int} {r : ge_R} (h : r ∈ jx_nx q) : jx_rb r := by
  unfold jx_nx at h
  split at h
  · simp only [List.mem_cons, List.not_mem_nil, or_false] at h
    rcases h with rfl | rfl <;> (unfold jx_rb ge_sm jx_xr; simp)
  · split at h
    · simp only [List.mem_cons, List.not_mem_nil, or_false] at h
      rw [h]
      unfold jx_rb ge_sm jx_xr
      simp
    · cases h
theorem jx_WY_rb {μ : jw_H} {t : Int} (hP : jm_Pb μ) {r : ge_R} (h : r ∈ jx_WY μ t) : jx_rb r := by
  have hq := hP.1
  have hw := hP.2.1
  rcases List.mem_append.mp ((jx_WY_mem hP r).mp h) with h | h
  · rcases List.mem_append.mp h with h | h
    · rcases jx_wW_mem.mp h with h | ⟨i, hi, rfl⟩
      · obtain ⟨i, h1, -, rfl⟩ := jx_wL_mem.mp h
        refine ⟨(jx_rn_flat hP (by omega) (by omega)).2, ?_⟩
        unfold jx_rn
        simp only [Int.mul_zero]
        omega
      · refine ⟨jx_wr_sm hP (by omega) (by omega), ?_⟩
        unfold jx_wr
        simp only
        omega
    · exact (jx_wp_ok hq.1 hq.2 h).2
  · exact jx_nx_rb h
theorem jx_wp_bx {q : Int} (q1 : 1 ≤ q) (q3 : q ≤ 3) (r : ge_R) : r ∈ ge_bx (jx_wb q) ∨ r ∈ jm_vr q ↔ r ∈ jx_wp q ∨ r ∈ jm_vr q := by
  rcases (show q = 1 ∨ q = 2 ∨ q = 3 by omega) with rfl | rfl | rfl
  · simp [ge_bx, jx_wb, jm_vr, jx_wp]
    grind
  · simp [ge_bx, jx_wb, jm_vr, jx_wp]
    grind
  · simp [ge_bx, jx_wb, jm_vr, jx_wp]
    grind
/-- the ways of the class are those of the geometry -/
theorem jx_WY_V {μ : jw_H} {p : ge_R} {t : Int} (hP : jm_Pb μ) (hp : ge_F (jm_R μ) p) (ht : jm_tau (jm_bA μ) p t) (v : ge_R) : ge_V (jx_WY μ t) v ↔ ge_V (ge_wy ((jm_R μ).filter (fun r => decide (ge_s r p = 0))) (jm_F μ) (jx_wb (μ 103 3))) v := by
  have hq := hP.1
  have hw := hP.2.1
  have hk := hP.2.2.1
  rw [ge_V_iff (jx_WY_mem hP), jx_nx_V hq.1 hq.2]
  · apply ge_V_iff
    intro r
    have ev : ∀ x ∈ jm_vr (μ 103 3), ge_s x p = 0 ∧ ge_ln x = x := by
      intro x hx
      have hz := jm_vr_z hp
      unfold jm_vr at hx
      rcases List.mem_append.mp hx with hx | hx
      · split at hx
        · rename_i h2
          simp only [List.mem_cons, List.not_mem_nil, or_false] at hx
          have := hz.1 h2
          rcases hx with rfl | rfl <;> (refine ⟨?_, rfl⟩; simp only [ge_s]; omega)
        · cases hx
      · split at hx
        · rename_i h2
          simp only [List.mem_cons, List.not_mem_nil, or_false] at hx
          have := hz.2 h2
          rcases hx with rfl | rfl <;> (refine ⟨?_, rfl⟩; simp only [ge_s]; omega)
        · cases hx
    have eln : ∀ i : Int, ge_ln (jx_row μ i) = jx_rn μ i 0 := fun i => by
      unfold ge_ln jx_row jx_rn
      simp only [Int.mul_zero]
    have elf : ∀ i : Int, ge_lf (jm_W μ i) = jx_wr μ i 0 := fun i => rfl
    unfold ge_wy
    simp only [List.mem_append, List.mem_map, List.mem_filter, decide_eq_true_eq, jx_wW_mem, jx_wL_mem]
    have hbx := jx_wp_bx hq.1 hq.2 r
    constructor
    · rintro (((⟨i, h1, h2, rfl⟩ | ⟨i, h1, rfl⟩) | h) | h)
      · left
        have h3 : i < 20 := by omega
        obtain ⟨x, h4, h5⟩ := (ht.2.2 i h3).mp h2
        obtain ⟨-, rfl⟩ := (jx_bA_row hP).mp h4
        exact ⟨_, ⟨List.mem_append_left _ (List.mem_map.mpr ⟨_, h4, rfl⟩), h5⟩, eln _⟩
      · right
        left
        exact ⟨_, List.mem_map.mpr ⟨i, List.mem_range.mpr h1, rfl⟩, elf _⟩
      · rcases hbx.mpr (.inl h) with h | h
        · exact .inr (.inr h)
        · exact .inl ⟨r, ⟨List.mem_append_right _ h, (ev r h).1⟩, (ev r h).2⟩
      · exact .inl ⟨r, ⟨List.mem_append_right _ h, (ev r h).1⟩, (ev r h).2⟩
    · rintro (⟨x, ⟨hx, hs⟩, rfl⟩ | ⟨f, hf, rfl⟩ | h)
      · rcases List.mem_append.mp hx with hx | hx
        · obtain ⟨z, hz, rfl⟩ := List.mem_map.mp hx
          obtain ⟨h1, h2⟩ := (jx_bA_row (b := z.1) (r := z.2) hP).mp hz
          refine .inl (.inl (.inl ⟨z.1, by omega, (ht.2.2 z.1 (by omega)).mpr ⟨z.2, hz, hs⟩, ?_⟩))
          rw [h2, eln]
        · rw [(ev x hx).2]
          exact .inr hx
      · obtain ⟨i, hi, rfl⟩ := List.mem_map.mp hf
        exact .inl (.inl (.inr ⟨i, List.mem_range.mp hi, elf _⟩))
      · rcases hbx.mp (.inl h) with h | h
        · exact .inl (.inr h)
        · exact .inr h
  · intro r hr
    rcases List.mem_append.mp hr with h | h
    · rcases jx_wW_mem.mp h with h | ⟨i, hi, rfl⟩
      · obtain ⟨i, h1, -, rfl⟩ := jx_wL_mem.mp h
        exact (jx_rn_flat hP (by omega) (by omega)).1
      · have := jx_W_flat (w := (i : Int)) hP (by omega) (by omega)
        unfold jx_wr
        simp only
        omega
    · exact (jx_wp_ok hq.1 hq.2 h).1
/-- a corner of the ways stays small -/
theorem jx_WY_bd {μ : jw_H} {t : Int} (hP : jm_Pb μ) {v : ge_R} (hv : ge_V (jx_WY μ t) v) (hg : ge_g v = 1) : jx_bd v := by
  have hq := hP.1
  have hw := ge_w_le (fun r hr => (jx_WY_rb hP hr).1) hv hg
  have hF := hv.1
  have key : ∀ r, r ∈ jx_wp (μ 103 3) ∨ r ∈ jx_nx (μ 103 3) → ge_s r v ≤ 0 := fun r hr => hF.2 r ((jx_WY_mem hP r).mpr (by
    rcases hr with hr | hr
    · exact List.mem_append_left _ (List.mem_append_right _ hr)
    · exact List.mem_append_right _ hr))
  have hv2 : ge_V ((jx_wW μ (fun _ => 0) (jx_wL μ t (μ 103 5 + 2 * μ 103 3).toNat) (μ 103 4).toNat ++ jx_wp (μ 103 3)) ++ jm_vr (μ 103 3)) v := by
    rw [← jx_nx_V hq.1 hq.2, ← ge_V_iff (jx_WY_mem hP)]
    · exact hv
    · intro r hr
      have hww := hP.2.1
      rcases List.mem_append.mp hr with h | h
      · rcases jx_wW_mem.mp h with h | ⟨i, hi, rfl⟩
        · obtain ⟨i, h1, -, rfl⟩ := jx_wL_mem.mp h
          exact (jx_rn_flat hP (by omega) (by omega)).1
        · have := jx_W_flat (w := (i : Int)) hP (by omega) (by omega)
          unfold jx_wr
          simp only
          omega
      · exact (jx_wp_ok hq.1 hq.2 h).1
  have key2 : ∀ r, r ∈ jm_vr (μ 103 3) → ge_s r v ≤ 0 := fun r hr => hv2.1.2 r (List.mem_append_right _ hr)
  have w0 := hF.1
  unfold jx_bd
  rcases (show μ 103 3 = 1 ∨ μ 103 3 = 2 ∨ μ 103 3 = 3 by omega) with e | e | e
  · rw [e] at key key2
    have a1 := key (-1, 0, 0, 1) (.inl (by decide))
    have a2 := key (1, 0, 0, 1) (.inl (by decide))
    have a3 := key2 (0, 1, 0, 0) (by decide)
    have a4 := key2 (0, -1, 0, 0) (by decide)
    have a5 := key2 (0, 0, 1, 0) (by decide)
    have a6 := key2 (0, 0, -1, 0) (by decide)
    simp only [ge_s] at a1 a2 a3 a4 a5 a6
    omega
  · rw [e] at key key2
    have a1 := key (-1, 0, 0, 1) (.inl (by decide))
    have a2 := key (1, 0, 0, 1) (.inl (by decide))
    have a3 := key (0, 1, 0, 1) (.inl (by decide))
    have a4 := key (0, -1, 0, 1) (.inl (by decide))
    have a5 := key2 (0, 0, 1, 0) (by decide)
    have a6 := key2 (0, 0, -1, 0) (by decide)
    simp only [ge_s] at a1 a2 a3 a4 a5 a6
    omega
  · rw [e] at key
    have a1 := key (-1, 0, 0, 1) (.inl (by decide))
    have a2 := key (1, 0, 0, 1) (.inl (by decide))
    have a3 := key (0, 1, 0, 1) (.inl (by decide))
    have a4 := key (0, -1, 0, 1) (.inl (by decide))
    have a5 := key (0, 0, 1, 1) (.inl (by decide))
    have a6 := key (0, 0, -1, 1) (.inl (by decide))
    simp only [ge_s] at a1 a2 a3 a4 a5 a6
    omega
/-- which wishes can be more, none being less: told by bits -/
def jx_rs (μ : jw_H) (p : ge_R) (m : Int) : Prop := (0 ≤ m ∧ m ≤ 7) ∧ ∀ w : Nat, jb_in m w ↔ (w : Int) < μ 103 4 ∧ jm_up1 μ p (jm_W μ (w : Int))
theorem jx_up1_WY {μ : jw_H} {p : ge_R} {t w : Int} (hP : jm_Pb μ) (hp : ge_F (jm_R μ) p) (ht : jm_tau (jm_bA μ) p t) (w0 : 0 ≤ w) (w1 : w < μ 103 4) : jm_up1 μ p (jm_W μ w) ↔ ∃ v, ge_V (jx_WY μ t) v ∧ 0 < ge_f (jm_W μ w) v := by
  have hq := hP.1
  have hm : jm_W μ w ∈ jm_F μ := List.mem_map.mpr ⟨w.toNat, List.mem_range.mpr (by omega), by rw [Int.toNat_of_nonneg w0]⟩
  have h := ge_risen (R := jm_R μ) (F := jm_F μ) (b := jx_wb (μ 103 3)) (p := p) hp hm (fun x hx => by
    have z1 := jm_vr_z hp
    have z2 := jm_vr_z hx
    refine ⟨.inl rfl, ?_, ?_⟩
    · by_cases c : 2 ≤ μ 103 3
      · left
        exact if_pos c
      · right
        refine ⟨if_neg c, ?_⟩
        simp only [ge_to]
        rw [z1.2 (by omega), z2.2 (by omega)]
        omega
    · by_cases c : 3 ≤ μ 103 3
      · left
        exact if_pos c
      · right
        refine ⟨if_neg c, ?_⟩
        simp only [ge_to]
        rw [z1.1 (by omega), z2.1 (by omega)]
        omega)
  refine h.trans ⟨?_, ?_⟩
  · rintro ⟨v, hv, h2⟩
    exact ⟨v, (jx_WY_V hP hp ht v).mpr hv, h2⟩
  · rintro ⟨v, hv, h2⟩
    exact ⟨v, (jx_WY_V hP hp ht v).mp hv, h2⟩

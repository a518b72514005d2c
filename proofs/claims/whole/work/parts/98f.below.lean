/-! ===== the reference's body of corners: a body; its bounds ===== -/
theorem jm_lc_body {σ σ1 σ' : jw_H} {T : Int} {C : List (ge_R × Int)} (hP : jm_Pb σ) (hK : jm_kn σ C) (T0 : 0 < T) (N : jm_nl (jw_up σ 103 46 (C.length : Int)) σ1 (σ 103 5 + 2 * σ 103 3)) (H : jm_lc σ1 T C σ' (C.length : Int)) : jm_fr2 σ σ' ∧ jm_body σ' (jm_bT T (jm_bA σ)) (jm_big T C) := by
  have hB := jm_bA_B hP
  obtain ⟨hC, hBd, -⟩ := hK
  obtain ⟨n1, n2, n3⟩ := N
  obtain ⟨a1, a2, a3⟩ := H
  have hF : jm_fr σ (jw_up σ 103 46 (C.length : Int)) := jm_fr_up (jm_fr_rf σ) (by omega)
  have fr01 : jm_fr2 σ σ1 := ⟨fun o h1 h2 => by rw [n1 o (by omega)]; exact hF.1 o (by omega) h2, fun j h => by rw [n1 103 (by decide)]; exact hF.2 j h⟩
  have fr := jm_fr2_tr fr01 (jm_fr_2 a1)
  have e3 : σ' 103 3 = σ 103 3 := fr.2 3 (by omega)
  obtain ⟨f1, f2, f3, f4⟩ := jm_fr_N a1
  have pf1 : ∀ k j, jm_pf (jw_up σ 103 46 (C.length : Int)) k j = jm_pf σ k j := fun k j => by
    simp only [jm_pf, hF.2 3 (by omega), hF.2 5 (by omega), hF.1 105 (by omega) (by omega)]
  obtain ⟨⟨q1, q2⟩, -, ⟨k1, k2⟩, hKp, -, -⟩ := id hP
  have hbnd := jm_bk_bnd (wo := -1) (mo := -1) hP (k := (σ 103 5).toNat) (by omega)
  refine ⟨fr, ⟨?_, fun i x hx => ?_⟩, by rw [e3]; exact ge_big T0 hBd, by rw [e3]; exact ge_B_T hB, ?_, f3 n2, ?_, ?_⟩
  · rw [a2]
    unfold jm_big
    rw [List.length_map]
  · unfold jm_big at hx
    rw [List.getElem?_map] at hx
    match hy : C[i]? with
    | none => rw [hy] at hx; cases hx
    | some y =>
      rw [hy] at hx
      cases hx
      have := (List.getElem?_eq_some_iff.mp hy).1
      exact a3 i y hy (by omega)
  · intro b r hr
    obtain ⟨t, ht, rfl⟩ := jm_bT_mem.mp hr
    have hng : ∀ d : ge_D, ge_ng (ge_ng d) = d := fun d => by
      simp only [ge_ng, Int.neg_neg]
    have enor : jm_nor (ge_sr T t) = jm_nor t := rfl
    rw [enor, f1]
    rcases jm_bk_mem.mp ht with ⟨h1, h2, rfl⟩ | ht
    · refine ⟨by omega, ?_⟩
      rw [n3 (b : Int) (by omega) (by omega), pf1, pf1, pf1]
      have hb : (b : Int) < σ 103 5 := by omega
      have ep : ∀ j, jm_pf σ (b : Int) j = σ 105 (5 * (b : Int) + j) := fun j => by
        unfold jm_pf
        rw [if_pos hb]
      rw [ep, ep, ep, Int.add_zero]
      simp only [jm_nor, jm_kr]
      rcases jm_sg_1 σ (b : Int) with h | h <;> rw [h]
      · right
        simp only [ge_ng, Int.neg_mul, Int.one_mul, Int.neg_neg]
      · left
        simp only [Int.one_mul]
    · obtain ⟨i, hi, h⟩ := jm_be_mem.mp ht
      have hei : ∀ k : Int, σ 103 5 ≤ k → (k - σ 103 5) % σ 103 3 = (i : Int) → (jm_pf σ k 0, jm_pf σ k 1, jm_pf σ k 2) = jm_ei i := by
        intro k hk hm
        have e : ∀ j, jm_pf σ k j = if (i : Int) = j then 1 else 0 := fun j => by
          unfold jm_pf
          rw [if_neg (by omega), hm]
        have h3 : i = 0 ∨ i = 1 ∨ i = 2 := by omega
        rw [e, e, e]
        rcases h3 with rfl | rfl | rfl <;> simp [jm_ei]
      rcases h with ⟨rfl, rfl⟩ | ⟨rfl, rfl⟩
      · refine ⟨by omega, .inr ?_⟩
        rw [n3 _ (by omega) (by omega), pf1, pf1, pf1, hei _ (by omega) (by
          have : (((σ 103 5).toNat + i : Nat) : Int) - σ 103 5 = (i : Int) := by omega
          rw [this]
          exact Int.emod_eq_of_lt (by omega) (by omega))]
        exact (hng (jm_ei i)).symm
      · refine ⟨by omega, .inl ?_⟩
        rw [n3 _ (by omega) (by omega), pf1, pf1, pf1, hei _ (by omega) (by
          have : (((σ 103 5).toNat + (σ 103 3).toNat + i : Nat) : Int) - σ 103 5 = (i : Int) + σ 103 3 := by omega
          rw [this, Int.add_emod_right]
          exact Int.emod_eq_of_lt (by omega) (by omega))]
        rfl
  · intro b r hr
    rw [e3]
    obtain ⟨t, ht, rfl⟩ := jm_bT_mem.mp hr
    rcases jm_bk_mem.mp ht with ⟨h1, h2, rfl⟩ | ht
    · have := jm_kr_ok hP (k := (b : Int)) (m := if (b : Int) = -1 then 1 else 0) (by omega) (by omega) (by split <;> omega) (by split <;> omega)
      exact this.2.2
    · obtain ⟨i, hi, h⟩ := jm_be_mem.mp ht
      have h3 : i = 0 ∨ i = 1 ∨ i = 2 := by omega
      rcases h with ⟨rfl, rfl⟩ | ⟨rfl, rfl⟩ <;> rcases h3 with rfl | rfl | rfl <;> simp [ge_sr, jm_lo, jm_hi, jm_ei] <;> omega
  · intro b r t hr ht
    obtain ⟨r, hr1, rfl⟩ := jm_bT_mem.mp hr
    obtain ⟨t, ht1, rfl⟩ := jm_bT_mem.mp ht
    have : r = t := by
      rcases jm_bk_mem.mp hr1 with ⟨h1, h2, rfl⟩ | hr1
      · rcases jm_bk_mem.mp ht1 with ⟨h3, h4, rfl⟩ | ht1
        · rfl
        · obtain ⟨i, hi, h⟩ := jm_be_mem.mp ht1
          omega
      · rcases jm_bk_mem.mp ht1 with ⟨h3, h4, rfl⟩ | ht1
        · obtain ⟨i, hi, h⟩ := jm_be_mem.mp hr1
          omega
        · obtain ⟨i, hi, h⟩ := jm_be_mem.mp hr1
          obtain ⟨j, hj, g⟩ := jm_be_mem.mp ht1
          rcases h with ⟨e, rfl⟩ | ⟨e, rfl⟩ <;> rcases g with ⟨f, rfl⟩ | ⟨f, rfl⟩
          · have : i = j := by omega
            rw [this]
          · omega
          · omega
          · have : i = j := by omega
            rw [this]
    rw [this]
/-- the body cut to where the first k wishes are no less than at a plan -/
def jm_wb (σ : jw_H) (T : Int) (p : ge_R) : Nat → List (Nat × ge_R)
  | 0 => jm_bT T (jm_bA σ)
  | k + 1 => (12 + k, ge_no (jm_W σ (k : Int)) p) :: jm_wb σ T p k
theorem jm_wb_mem {σ : jw_H} {T : Int} {p : ge_R} {b : Nat} {r : ge_R} : ∀ {k : Nat}, (b, r) ∈ jm_wb σ T p k ↔ (∃ i, i < k ∧ b = 12 + i ∧ r = ge_no (jm_W σ (i : Int)) p) ∨ (b, r) ∈ jm_bT T (jm_bA σ)
  | 0 => by
    show _ ∈ jm_bT _ _ ↔ _
    constructor
    · exact .inr
    · rintro (⟨i, h, -⟩ | h)
      · omega
      · exact h
  | k + 1 => by
    have ih := jm_wb_mem (σ := σ) (T := T) (p := p) (b := b) (r := r) (k := k)
    show _ ∈ _ :: _ ↔ _
    rw [List.mem_cons, ih]
    constructor
    · rintro (h | ⟨i, h1, h2, h3⟩ | h)
      · cases h
        exact .inl ⟨k, by omega, rfl, rfl⟩
      · exact .inl ⟨i, by omega, h2, h3⟩
      · exact .inr h
    · rintro (⟨i, h1, h2, h3⟩ | h)
      · by_cases hi : i = k
        · subst hi
          exact .inl (by rw [h2, h3])
        · exact .inr (.inl ⟨i, by omega, h2, h3⟩)
      · exact .inr (.inr h)
theorem jm_bA_lt {σ : jw_H} (hP : jm_Pb σ) {b : Nat} {r : ge_R} (h : (b, r) ∈ jm_bA σ) : b < 12 := by
  have hq := hP.1
  have hk := hP.2.2.1
  rcases jm_bk_mem.mp h with ⟨h1, -⟩ | h
  · omega
  · obtain ⟨i, hi, h⟩ := jm_be_mem.mp h
    omega
theorem jm_wb_free {σ : jw_H} {T : Int} {p : ge_R} (hP : jm_Pb σ) (k : Nat) (r : ge_R) : (12 + k, r) ∉ jm_wb σ T p k := by
  intro h
  rcases jm_wb_mem.mp h with ⟨i, h1, h2, -⟩ | h
  · omega
  · obtain ⟨t, ht, -⟩ := jm_bT_mem.mp h
    have := jm_bA_lt hP ht
    omega
theorem jm_wb_len {σ : jw_H} {T : Int} {p : ge_R} (hP : jm_Pb σ) : ∀ k : Nat, (jm_RR (σ 103 3) (jm_wb σ T p k)).length ≤ k + 10
  | 0 => by
    have h := jm_bk_len (wo := -1) (mo := -1) hP.1.1 hP.1.2 (σ 103 5).toNat
    have hk := hP.2.2.1
    show (jm_RR (σ 103 3) (jm_bT T (jm_bA σ))).length ≤ _
    unfold jm_RR jm_bT jm_bA at *
    rw [List.length_append, List.length_map] at h
    rw [List.length_append, List.length_map, List.length_map]
    omega
  | k + 1 => by
    have ih := jm_wb_len (T := T) (p := p) hP k
    show (jm_RR (σ 103 3) (_ :: _)).length ≤ _
    rw [jm_RR_cons, List.length_cons]
    omega
theorem jm_no_sm {f : ge_D} {p : ge_R} (hf : (-3 ≤ f.1 ∧ f.1 ≤ 3) ∧ (-3 ≤ f.2.1 ∧ f.2.1 ≤ 3) ∧ (-3 ≤ f.2.2 ∧ f.2.2 ≤ 3)) : ge_sm (ge_no f p) := by
  simp only [ge_sm, ge_no]
  omega
theorem jm_V_bdT {σ : jw_H} {T : Int} {p v : ge_R} {k : Nat} (hP : jm_Pb σ) (T0 : 0 < T) (hk : (k : Int) ≤ σ 103 4) (hv : ge_V (jm_RR (σ 103 3) (jm_wb σ T p k)) v) (hg : ge_g v = 1) : jm_in4 (1458 * T) v ∧ v.2.2.2 ≤ 162 := by
  have hq := hP.1
  have hk5 := hP.2.2.1
  have hbnd := jm_bk_bnd (wo := -1) (mo := -1) hP (k := (σ 103 5).toNat) (by omega)
  have hw := ge_w_le (R := jm_RR (σ 103 3) (jm_wb σ T p k)) (fun r hr => by
    rcases List.mem_append.mp hr with hr | hr
    · obtain ⟨z, hz, rfl⟩ := List.mem_map.mp hr
      rcases jm_wb_mem.mp (show (z.1, z.2) ∈ _ from hz) with ⟨i, h1, h2, h3⟩ | h
      · rw [h3]
        exact jm_no_sm (jm_W_sm hP (by omega) (by omega))
      · obtain ⟨t, ht, h3⟩ := jm_bT_mem.mp h
        rw [h3]
        have h9 : ge_sm t := hbnd.1 _ _ ht
        exact h9
    · exact jm_vr_sm hr) hv hg
  obtain ⟨⟨q1, q2⟩, -, ⟨k1, k2⟩, -, hB, -⟩ := hP
  have ax := jm_vr_z hv.1
  have w0 := hv.1.1
  have row : ∀ i : Nat, i < (σ 103 3).toNat → ge_s (ge_sr T (jm_lo i)) v ≤ 0 ∧ ge_s (ge_sr T (jm_hi i (jm_Bs σ i))) v ≤ 0 := fun i hi => by
    refine ⟨hv.1.2 _ (List.mem_append_left _ (List.mem_map.mpr ⟨_, jm_wb_mem.mpr (.inr (jm_bT_mem.mpr ⟨_, hbnd.2 _ (jm_be_mem.mpr ⟨i, hi, .inl ⟨rfl, rfl⟩⟩), rfl⟩)), rfl⟩)), hv.1.2 _ (List.mem_append_left _ (List.mem_map.mpr ⟨_, jm_wb_mem.mpr (.inr (jm_bT_mem.mpr ⟨_, hbnd.2 _ (jm_be_mem.mpr ⟨i, hi, .inr ⟨rfl, rfl⟩⟩), rfl⟩)), rfl⟩))⟩
  have mulB : ∀ i : Nat, i < 3 → T * jm_Bs σ i * v.2.2.2 ≤ 1458 * T := fun i hi => by
    have h1 : jm_Bs σ i ≤ 9 := (hB (i : Int) (by omega) (by omega)).2
    have h0 : 1 ≤ jm_Bs σ i := (hB (i : Int) (by omega) (by omega)).1
    have h2 := jm_ab (a := jm_Bs σ i) (x := v.2.2.2) (S := 9) (X := 162) (by omega) h1 (by omega) hw
    have h3 := Int.mul_le_mul_of_nonneg_left h2.2 (Int.le_of_lt T0)
    have e : T * (jm_Bs σ i * v.2.2.2) = T * jm_Bs σ i * v.2.2.2 := by grind
    omega
  have wT : v.2.2.2 ≤ 1458 * T := by omega
  have cx : 0 ≤ v.1 ∧ v.1 ≤ 1458 * T := by
    obtain ⟨h1, h2⟩ := row 0 (by omega)
    have := mulB 0 (by omega)
    simp [ge_s, ge_sr, jm_lo, jm_hi, jm_ei] at h1 h2
    omega
  have cy : 0 ≤ v.2.1 ∧ v.2.1 ≤ 1458 * T := by
    by_cases hq : σ 103 3 ≤ 1
    · have := ax.2 hq
      omega
    · obtain ⟨h1, h2⟩ := row 1 (by omega)
      have := mulB 1 (by omega)
      simp [ge_s, ge_sr, jm_lo, jm_hi, jm_ei] at h1 h2
      omega
  have cz : 0 ≤ v.2.2.1 ∧ v.2.2.1 ≤ 1458 * T := by
    by_cases hq : σ 103 3 ≤ 2
    · have := ax.1 hq
      omega
    · obtain ⟨h1, h2⟩ := row 2 (by omega)
      have := mulB 2 (by omega)
      simp [ge_s, ge_sr, jm_lo, jm_hi, jm_ei] at h1 h2
      omega
  exact ⟨⟨cx, cy, cz, w0, wT⟩, hw⟩

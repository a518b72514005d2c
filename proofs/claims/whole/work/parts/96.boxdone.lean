/-! ===== the reference's body as it begins; its bounds ===== -/
/-- but the body's rows, its normals and the number of points nothing is written -/
def jm_fr2 (σ σ' : jw_H) : Prop := (∀ o, (o < 125 ∨ 131 < o) → o ≠ 103 → σ' o = σ o) ∧ ∀ j, j ≠ 46 → σ' 103 j = σ 103 j
theorem jm_fr2_rf (σ : jw_H) : jm_fr2 σ σ := ⟨fun _ _ _ => rfl, fun _ _ => rfl⟩
theorem jm_fr2_tr {σ σ1 σ2 : jw_H} (a : jm_fr2 σ σ1) (b : jm_fr2 σ1 σ2) : jm_fr2 σ σ2 := ⟨fun o h1 h2 => (b.1 o h1 h2).trans (a.1 o h1 h2), fun j h => (b.2 j h).trans (a.2 j h)⟩
theorem jm_fr_2 {σ σ' : jw_H} (a : jm_fr σ σ') : jm_fr2 σ σ' := ⟨fun o h1 h2 => a.1 o (by omega) h2, a.2⟩
theorem jm_fr2_ln (σ : jw_H) (k a b c : Int) : jm_fr2 σ (jm_ln σ k a b c) := ⟨fun o h1 _ => jm_ln_o _ _ _ _ _ (by omega), fun j _ => by rw [jm_ln_o _ _ _ _ _ (by decide)]⟩
theorem jm_fr2_Pb {σ σ' : jw_H} (a : jm_fr2 σ σ') (hP : jm_Pb σ) : jm_Pb σ' := jm_Pb_fr (fun j hj => a.2 j (by omega)) (a.1 104 (by omega) (by omega)) (a.1 105 (by omega) (by omega)) (a.1 106 (by omega) (by omega)) hP
theorem jm_box_body {σ σ1 σ' : jw_H} (hP : jm_Pb σ) (H : jm_bI σ σ1 ((2 ^ (σ 103 3).toNat : Nat) : Int) ((2 ^ (σ 103 3).toNat : Nat) : Int)) (N : jm_nl σ1 σ' (σ 103 5 + 2 * σ 103 3)) : jm_fr2 σ σ' ∧ jm_body σ' (jm_be (σ 103 5).toNat (σ 103 3).toNat (jm_Bs σ)) (jm_b0 σ (2 ^ (σ 103 3).toNat)) := by
  have hBd := jm_box_Bd hP
  obtain ⟨a1, a2, a3⟩ := H
  obtain ⟨n1, n2, n3⟩ := N
  have fr : jm_fr2 σ σ' := ⟨fun o h1 h2 => by rw [n1 o (by omega)]; exact a1.1 o (by omega) h2, fun j h => by rw [n1 103 (by decide)]; exact a1.2 j h⟩
  have e3 : σ' 103 3 = σ 103 3 := fr.2 3 (by omega)
  obtain ⟨⟨q1, q2⟩, -, ⟨k1, k2⟩, -, -, -⟩ := hP
  have pf1 : ∀ k j, jm_pf σ1 k j = jm_pf σ k j := fun k j => by
    simp only [jm_pf, a1.2 3 (by omega), a1.2 5 (by omega), a1.1 105 (by omega) (by omega)]
  have eq : σ 103 3 = ((σ 103 3).toNat : Int) := by omega
  have ek : σ 103 5 = ((σ 103 5).toNat : Int) := by omega
  refine ⟨fr, ⟨?_, fun i x hx => ?_⟩, by rw [e3]; exact hBd, ?_, ?_, n2, ?_, ?_⟩
  · rw [n1 103 (by decide), a2]
    unfold jm_b0
    rw [List.length_map, List.length_range]
  · unfold jm_b0 at hx
    rw [List.getElem?_map] at hx
    have hi : i < 2 ^ (σ 103 3).toNat := by
      apply Classical.byContradiction
      intro w
      rw [List.getElem?_eq_none (by rw [List.length_range]; omega)] at hx
      cases hx
    rw [List.getElem?_range hi] at hx
    cases hx
    obtain ⟨b1, b2⟩ := a3 (i : Int) (by omega) (by omega)
    refine ⟨?_, by rw [n1 130 (by decide)]; exact b2⟩
    show jm_pt σ' (i : Int) = jm_bp σ (i : Int)
    rw [← b1]
    simp only [jm_pt, n1 125 (by decide), n1 126 (by decide), n1 127 (by decide), n1 128 (by decide)]
  · rw [e3]
    intro d hd
    obtain ⟨r, hr, h⟩ := ge_box_B (a := jm_Bq (σ 103 3).toNat (jm_Bs σ) 0) (b := jm_Bq (σ 103 3).toNat (jm_Bs σ) 1) (c := jm_Bq (σ 103 3).toNat (jm_Bs σ) 2) d hd
    refine ⟨r, ?_, h⟩
    have := (jm_box_rows (K := (σ 103 5).toNat) (B := jm_Bs σ) (q := (σ 103 3).toNat) (by omega) (by omega) r).mpr hr
    rw [← eq] at this
    exact this
  · intro b r hr
    obtain ⟨i, hi, h⟩ := jm_be_mem.mp hr
    have hei : ∀ k : Int, σ 103 5 ≤ k → (k - σ 103 5) % σ 103 3 = (i : Int) → (jm_pf σ k 0, jm_pf σ k 1, jm_pf σ k 2) = jm_ei i := by
      intro k hk hm
      have e : ∀ j, jm_pf σ k j = if (i : Int) = j then 1 else 0 := fun j => by
        unfold jm_pf
        rw [if_neg (by omega), hm]
      have h3 : i = 0 ∨ i = 1 ∨ i = 2 := by omega
      rw [e, e, e]
      rcases h3 with rfl | rfl | rfl <;> simp [jm_ei]
    have hng : ∀ d : ge_D, ge_ng (ge_ng d) = d := fun d => by
      simp only [ge_ng, Int.neg_neg]
    rcases h with ⟨rfl, rfl⟩ | ⟨rfl, rfl⟩
    · refine ⟨by omega, .inr ?_⟩
      rw [n3 _ (by omega) (by omega), pf1, pf1, pf1, hei _ (by omega) (by
        have : (((σ 103 5).toNat + i : Nat) : Int) - σ 103 5 = (i : Int) := by omega
        rw [this]
        exact Int.emod_eq_of_lt (by omega) (by omega))]
      exact (hng (jm_ei i)).symm
    · refine ⟨by omega, .inl ?_⟩
      rw [n3 _ (by omega) (by omega), pf1, pf1, pf1, hei _ (by omega) (by
        have : (((σ 103 5).toNat + (σ 103 3).toNat + i : Nat) : Int) - σ 103 5 = (i : Int) + σ 103 3 := by omega
        rw [this, Int.add_emod_right]
        exact Int.emod_eq_of_lt (by omega) (by omega))]
      rfl
  · intro b r hr
    rw [e3]
    obtain ⟨i, hi, h⟩ := jm_be_mem.mp hr
    have h3 : i = 0 ∨ i = 1 ∨ i = 2 := by omega
    rcases h with ⟨rfl, rfl⟩ | ⟨rfl, rfl⟩ <;> rcases h3 with rfl | rfl | rfl <;> simp [jm_lo, jm_hi, jm_ei] <;> omega
  · intro b r t hr ht
    obtain ⟨i, hi, h⟩ := jm_be_mem.mp hr
    obtain ⟨j, hj, g⟩ := jm_be_mem.mp ht
    rcases h with ⟨e, rfl⟩ | ⟨e, rfl⟩ <;> rcases g with ⟨f, rfl⟩ | ⟨f, rfl⟩
    · have : i = j := by omega
      rw [this]
    · omega
    · omega
    · have : i = j := by omega
      rw [this]
/-- all rows small, the box among them -/
def jm_bnd (σ : jw_H) (β : List (Nat × ge_R)) : Prop := (∀ (b : Nat) (r : ge_R), (b, r) ∈ β → ge_sm r) ∧ ∀ z ∈ jm_be (σ 103 5).toNat (σ 103 3).toNat (jm_Bs σ), z ∈ β
theorem jm_vr_sm {q : Int} {r : ge_R} (h : r ∈ jm_vr q) : ge_sm r := by
  unfold jm_vr at h
  rcases List.mem_append.mp h with h | h
  · split at h
    · simp only [List.mem_cons, List.not_mem_nil, or_false] at h
      rcases h with rfl | rfl <;> (simp only [ge_sm]; omega)
    · exact absurd h List.not_mem_nil
  · split at h
    · simp only [List.mem_cons, List.not_mem_nil, or_false] at h
      rcases h with rfl | rfl <;> (simp only [ge_sm]; omega)
    · exact absurd h List.not_mem_nil
theorem jm_be_sm {K q : Nat} {B : Nat → Int} {b : Nat} {r : ge_R} (h : (b, r) ∈ jm_be K q B) (q3 : q ≤ 3) : ge_sm r := by
  obtain ⟨i, hi, h⟩ := jm_be_mem.mp h
  have h3 : i = 0 ∨ i = 1 ∨ i = 2 := by omega
  rcases h with ⟨rfl, rfl⟩ | ⟨rfl, rfl⟩ <;> rcases h3 with rfl | rfl | rfl <;> simp [jm_lo, jm_hi, jm_ei, ge_sm]
theorem jm_V_bd {σ : jw_H} {β : List (Nat × ge_R)} {v : ge_R} (hP : jm_Pb σ) (hb : jm_bnd σ β) (hv : ge_V (jm_RR (σ 103 3) β) v) (hg : ge_g v = 1) : jm_in4 1458 v ∧ v.2.2.2 ≤ 162 ∧ v.1 ≤ 9 * v.2.2.2 ∧ v.2.1 ≤ 9 * v.2.2.2 ∧ v.2.2.1 ≤ 9 * v.2.2.2 := by
  have hw := ge_w_le (R := jm_RR (σ 103 3) β) (fun r hr => by
    rcases List.mem_append.mp hr with hr | hr
    · obtain ⟨z, hz, rfl⟩ := List.mem_map.mp hr
      exact hb.1 z.1 z.2 hz
    · exact jm_vr_sm hr) hv hg
  obtain ⟨⟨q1, q2⟩, -, ⟨k1, k2⟩, -, hB, -⟩ := hP
  have ax := jm_vr_z hv.1
  have row : ∀ i : Nat, i < (σ 103 3).toNat → ge_s (jm_lo i) v ≤ 0 ∧ ge_s (jm_hi i (jm_Bs σ i)) v ≤ 0 := fun i hi => by
    refine ⟨hv.1.2 _ (List.mem_append_left _ (List.mem_map.mpr ⟨_, hb.2 _ (jm_be_mem.mpr ⟨i, hi, .inl ⟨rfl, rfl⟩⟩), rfl⟩)), hv.1.2 _ (List.mem_append_left _ (List.mem_map.mpr ⟨_, hb.2 _ (jm_be_mem.mpr ⟨i, hi, .inr ⟨rfl, rfl⟩⟩), rfl⟩))⟩
  have w0 := hv.1.1
  have mul9 : ∀ i : Nat, i < 3 → jm_Bs σ i * v.2.2.2 ≤ 9 * v.2.2.2 := fun i hi => Int.mul_le_mul_of_nonneg_right (hB (i : Int) (by omega) (by omega)).2 (Int.le_of_lt w0)
  have cx : 0 ≤ v.1 ∧ v.1 ≤ 9 * v.2.2.2 := by
    obtain ⟨h1, h2⟩ := row 0 (by omega)
    have := mul9 0 (by omega)
    simp [ge_s, jm_lo, jm_hi, jm_ei] at h1 h2
    omega
  have cy : 0 ≤ v.2.1 ∧ v.2.1 ≤ 9 * v.2.2.2 := by
    by_cases hq : σ 103 3 ≤ 1
    · have := ax.2 hq
      omega
    · obtain ⟨h1, h2⟩ := row 1 (by omega)
      have := mul9 1 (by omega)
      simp [ge_s, jm_lo, jm_hi, jm_ei] at h1 h2
      omega
  have cz : 0 ≤ v.2.2.1 ∧ v.2.2.1 ≤ 9 * v.2.2.2 := by
    by_cases hq : σ 103 3 ≤ 2
    · have := ax.1 hq
      omega
    · obtain ⟨h1, h2⟩ := row 2 (by omega)
      have := mul9 2 (by omega)
      simp [ge_s, jm_lo, jm_hi, jm_ei] at h1 h2
      omega
  refine ⟨⟨⟨cx.1, by omega⟩, ⟨cy.1, by omega⟩, ⟨cz.1, by omega⟩, ⟨w0, by omega⟩⟩, hw, cx.2, cy.2, cz.2⟩
/-- another normal laid, at a bit that is free -/
theorem jm_body_ln {σ : jw_H} {β : List (Nat × ge_R)} {L : List (ge_R × Int)} {k a b c : Int} (H : jm_body σ β L) (k0 : 0 ≤ k) (hf : ∀ r, (k.toNat, r) ∉ β) (ha : -3 ≤ a ∧ a ≤ 3) (hb : -3 ≤ b ∧ b ≤ 3) (hc : -3 ≤ c ∧ c ≤ 3) : jm_body (jm_ln σ k a b c) β L := by
  obtain ⟨h1, h2, h3, h4, h5, h6, h7⟩ := H
  have e : ∀ o, o ≠ 131 → jm_ln σ k a b c o = σ o := fun o ho => jm_ln_o _ _ _ _ _ ho
  have e3 : jm_ln σ k a b c 103 3 = σ 103 3 := by rw [e 103 (by decide)]
  refine ⟨⟨by rw [e 103 (by decide)]; exact h1.1, fun i x hx => ?_⟩, by rw [e3]; exact h2, by rw [e3]; exact h3, fun b r hr => ?_, jm_ln_Ns h5 ha hb hc, by rw [e3]; exact h6, h7⟩
  · obtain ⟨g1, g2⟩ := h1.2 i x hx
    refine ⟨?_, by rw [e 130 (by decide)]; exact g2⟩
    rw [← g1]
    simp only [jm_pt, e 125 (by decide), e 126 (by decide), e 127 (by decide), e 128 (by decide)]
  · obtain ⟨g1, g2⟩ := h4 b r hr
    refine ⟨g1, ?_⟩
    rw [jm_ln_N, if_neg (fun w => hf r (by rw [← w, Int.toNat_natCast]; exact hr))]
    exact g2

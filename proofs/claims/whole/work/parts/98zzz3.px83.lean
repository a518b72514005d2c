/-! ===== area: the sums stay in range ===== -/
theorem jk_pb {x w x' w' : Int} (h1 : 0 ≤ x ∧ x ≤ 9 * w) (hw : 0 < w) (h2 : 0 ≤ x' ∧ x' ≤ 9 * w') (hw' : 0 < w') : -(9 * (w * w')) ≤ x * w' - x' * w ∧ x * w' - x' * w ≤ 9 * (w * w') := by
  have p1 := Int.mul_nonneg h1.1 (Int.le_of_lt hw')
  have p2 := Int.mul_le_mul_of_nonneg_right h1.2 (Int.le_of_lt hw')
  have p3 := Int.mul_nonneg h2.1 (Int.le_of_lt hw)
  have p4 := Int.mul_le_mul_of_nonneg_right h2.2 (Int.le_of_lt hw)
  have e1 : 9 * w * w' = 9 * (w * w') := Int.mul_assoc _ _ _
  have e2 : 9 * w' * w = 9 * (w * w') := by rw [Int.mul_assoc, Int.mul_comm w' w]
  omega
theorem jk_u_l {σ : jw_H} {C : List (ge_R × Int)} (hKN : jm_KN σ C) {i j : Int} (i0 : 0 ≤ i) (i1 : i < σ 103 56) (j0 : 0 ≤ j) (j1 : j < σ 103 56) : jk_u σ i j ≤ 162 * jk_l σ i j := by
  have x0 : 0 ≤ σ 132 0 ∧ σ 132 0 ≤ 9 * σ 135 0 := (jk_c hKN 0 (i := 0) (by omega) (by omega)).1
  have y0 : 0 ≤ σ 133 0 ∧ σ 133 0 ≤ 9 * σ 135 0 := (jk_c hKN 1 (i := 0) (by omega) (by omega)).1
  have w0 := (jk_c hKN 0 (i := 0) (by omega) (by omega)).2.1
  have xi : 0 ≤ σ 132 i ∧ σ 132 i ≤ 9 * σ 135 i := (jk_c hKN 0 i0 i1).1
  have yi : 0 ≤ σ 133 i ∧ σ 133 i ≤ 9 * σ 135 i := (jk_c hKN 1 i0 i1).1
  have wi := (jk_c hKN 0 i0 i1).2.1
  have xj : 0 ≤ σ 132 j ∧ σ 132 j ≤ 9 * σ 135 j := (jk_c hKN 0 j0 j1).1
  have yj : 0 ≤ σ 133 j ∧ σ 133 j ≤ 9 * σ 135 j := (jk_c hKN 1 j0 j1).1
  have wj := (jk_c hKN 0 j0 j1).2.1
  have a1 := jk_pb xi wi.1 x0 w0.1
  have a2 := jk_pb yi wi.1 y0 w0.1
  have a3 := jk_pb xj wj.1 x0 w0.1
  have a4 := jk_pb yj wj.1 y0 w0.1
  have pi := Int.mul_pos wi.1 w0.1
  have pj := Int.mul_pos wj.1 w0.1
  have b1 := jk_m2 (A := 9 * (σ 135 i * σ 135 0)) (B := 9 * (σ 135 j * σ 135 0)) a1 a4 (by omega) (by omega)
  have b2 := jk_m2 (A := 9 * (σ 135 i * σ 135 0)) (B := 9 * (σ 135 j * σ 135 0)) a2 a3 (by omega) (by omega)
  have e : 9 * (σ 135 i * σ 135 0) * (9 * (σ 135 j * σ 135 0)) = 81 * jk_l σ i j := by
    unfold jk_l
    grind
  rw [e] at b1 b2
  unfold jk_u jk_cr
  split <;> omega
theorem jk_tm_le {u l K : Int} (hl : 0 < l) (hK : 0 < K) (hd : l ∣ K) (hu : u ≤ 162 * l) : u * (K / l) ≤ 162 * K := by
  obtain ⟨k, hk⟩ := hd
  have e : K / l = k := by
    rw [hk]
    exact Int.mul_ediv_cancel_left _ (by omega)
  have k0 : 0 < k := Int.lt_of_mul_lt_mul_left (a := l) (by rw [Int.mul_zero]; omega) (by omega)
  rw [e]
  have := Int.mul_le_mul_of_nonneg_right hu (Int.le_of_lt k0)
  rw [Int.mul_assoc, ← hk] at this
  exact this
theorem jk_aR_L {σ : jw_H} {C : List (ge_R × Int)} (hKN : jm_KN σ C) {K i : Int} (hK : 0 < K) (i1 : 1 ≤ i) (i2 : i < σ 103 56) (hd : ∀ j, j < σ 103 56 → jk_lk σ i j → jk_l σ i j ∣ K) : ∀ m : Nat, (m : Int) ≤ σ 103 56 → ∃ L : List (Int × Int), jk_aR σ K i m ≤ (L.length : Int) * (162 * K) ∧ (∀ p ∈ L, p.1 = i ∧ p.2 < (m : Int) ∧ jk_lk σ i p.2) ∧ L.Pairwise (fun a b => ¬ a = b)
  | 0, _ => ⟨[], by show (0 : Int) ≤ ((0 : Nat) : Int) * (162 * K); rw [Int.natCast_zero, Int.zero_mul]; exact Int.le_refl _, fun p hp => (by cases hp), .nil⟩
  | m + 1, h => by
    obtain ⟨L, h1, h2, h3⟩ := jk_aR_L hKN hK i1 i2 hd m (by omega)
    have hs : jk_aR σ K i (m + 1) = jk_aR σ K i m + jx_b (jk_lk σ i (m : Int)) * (jk_u σ i (m : Int) * (K / jk_l σ i (m : Int))) := rfl
    by_cases hl : jk_lk σ i (m : Int)
    · refine ⟨(i, (m : Int)) :: L, ?_, ?_, ?_⟩
      · have hcb := (jm_kw_cbd hKN.1).2 σ (jm_fk_rf σ)
        have hlb := jk_l_bd hcb (i := i) (j := (m : Int)) (by omega) (by omega) (by omega) (by omega)
        have ht := jk_tm_le hlb.1 hK (hd (m : Int) (by omega) hl) (jk_u_l hKN (i := i) (j := (m : Int)) (by omega) (by omega) (by omega) (by omega))
        rw [hs, jx_b_1 hl, Int.one_mul, List.length_cons, Int.natCast_add, Int.add_mul, Int.natCast_one, Int.one_mul]
        omega
      · intro p hp
        rcases List.mem_cons.mp hp with rfl | hp
        · exact ⟨rfl, by show (m : Int) < ((m + 1 : Nat) : Int); omega, hl⟩
        · obtain ⟨q1, q2, q3⟩ := h2 p hp
          exact ⟨q1, by omega, q3⟩
      · refine List.pairwise_cons.mpr ⟨fun a ha he => ?_, h3⟩
        have q2 := (h2 a ha).2.1
        rw [← he] at q2
        have q3 : (m : Int) < (m : Int) := q2
        omega
    · refine ⟨L, ?_, fun p hp => ?_, h3⟩
      · rw [hs, jx_b_0 hl, Int.zero_mul, Int.add_zero]
        exact h1
      · obtain ⟨q1, q2, q3⟩ := h2 p hp
        exact ⟨q1, by omega, q3⟩
theorem jk_aS_L {σ : jw_H} {C : List (ge_R × Int)} (hKN : jm_KN σ C) {K : Int} (hK : 0 < K) (hd : ∀ i j, 1 ≤ i → j < σ 103 56 → jk_lk σ i j → jk_l σ i j ∣ K) : ∀ m : Nat, (m : Int) ≤ σ 103 56 → ∃ L : List (Int × Int), jk_aS σ K m ≤ (L.length : Int) * (162 * K) ∧ (∀ p ∈ L, 1 ≤ p.1 ∧ p.1 < (m : Int) ∧ p.2 < σ 103 56 ∧ jk_lk σ p.1 p.2) ∧ L.Pairwise (fun a b => ¬ a = b)
  | 0, _ => ⟨[], by show (0 : Int) ≤ ((0 : Nat) : Int) * (162 * K); rw [Int.natCast_zero, Int.zero_mul]; exact Int.le_refl _, fun p hp => (by cases hp), .nil⟩
  | m + 1, h => by
    obtain ⟨L, h1, h2, h3⟩ := jk_aS_L hKN hK hd m (by omega)
    have hs : jk_aS σ K (m + 1) = jk_aS σ K m + jx_b (1 ≤ (m : Int)) * jk_aR σ K (m : Int) (σ 103 56).toNat := rfl
    by_cases hl : 1 ≤ (m : Int)
    · obtain ⟨M, m1, m2, m3⟩ := jk_aR_L hKN hK hl (by omega) (fun j h1 h2 => hd (m : Int) j hl h1 h2) (σ 103 56).toNat (by omega)
      refine ⟨L ++ M, ?_, ?_, ?_⟩
      · rw [hs, jx_b_1 hl, Int.one_mul, List.length_append, Int.natCast_add, Int.add_mul]
        omega
      · intro p hp
        rcases List.mem_append.mp hp with hp | hp
        · obtain ⟨q1, q2, q3⟩ := h2 p hp
          exact ⟨q1, by omega, q3⟩
        · obtain ⟨q1, q2, q3⟩ := m2 p hp
          exact ⟨by omega, by omega, by omega, by rw [q1]; exact q3⟩
      · refine List.pairwise_append.mpr ⟨h3, m3, fun a ha b hb he => ?_⟩
        have q1 := (h2 a ha).2.1
        have q2 := (m2 b hb).1
        rw [he] at q1
        omega
    · refine ⟨L, ?_, fun p hp => ?_, h3⟩
      · rw [hs, jx_b_0 hl, Int.zero_mul, Int.add_zero]
        exact h1
      · obtain ⟨q1, q2, q3⟩ := h2 p hp
        exact ⟨q1, by omega, q3⟩
theorem jk_x0 {r t : ge_R} (h1 : r.1 = 0) (h2 : r.2.1 = 0) (h3 : r.2.2.1 = 0) : ¬ ge_nz (ge_x r t) ∧ ¬ ge_nz (ge_x t r) := by
  unfold ge_nz ge_x
  dsimp only
  rw [h1, h2, h3]
  constructor <;> intro hh <;> apply hh <;> refine ⟨?_, ?_, ?_⟩ <;> omega
theorem jk_xZ {r t : ge_R} (h1 : jk_Z r) (h2 : jk_Z t) : ¬ ge_nz (ge_x r t) := by
  obtain ⟨a1, a2, -⟩ := h1
  obtain ⟨b1, b2, -⟩ := h2
  unfold ge_nz ge_x
  dsimp only
  rw [a1, a2, b1, b2]
  intro hh
  apply hh
  refine ⟨?_, ?_, ?_⟩ <;> omega
/-- no more pairs of linked corners than rows -/
theorem jk_prs {σ : jw_H} {C : List (ge_R × Int)} (hKN : jm_KN σ C) (hq : σ 103 3 = 2) {L : List (Int × Int)} (hL : ∀ p ∈ L, 1 ≤ p.1 ∧ p.1 < σ 103 56 ∧ p.2 < σ 103 56 ∧ jk_lk σ p.1 p.2) (hp : L.Pairwise (fun a b => ¬ a = b)) : L.length ≤ 10 := by
  have hP := hKN.1.1
  have hz : ∀ c : Int, 0 ≤ c → c < σ 103 56 → (jm_ct σ c).2.2.1 = 0 := fun c c0 c1 => (jm_vr_z (jm_tg hKN c0 c1).2.2.1.1).1 (by omega)
  have hne : ∀ a b : Int, 0 ≤ a → a < σ 103 56 → 0 ≤ b → b < σ 103 56 → a ≠ b → ¬ ge_e (jm_ct σ a) (jm_ct σ b) := fun a b a0 a1 b0 b1 hab => by
    rcases (show a < b ∨ b < a by omega) with h | h
    · exact (jm_ct_ne hKN a0 h b1).2
    · exact fun hh => (jm_ct_ne hKN b0 h a1).2 (ge_e_sym hh)
  have h := ge_pig (α := Int × Int) (fun a b => a = b) ((jm_R σ).map (fun r p => r.2.2.1 = 0 ∧ ¬ (r.1 = 0 ∧ r.2.1 = 0) ∧ ge_s r (jm_ct σ p.1) = 0 ∧ ge_s r (jm_ct σ p.2) = 0)) L hp (fun p hpL => by
    obtain ⟨-, -, -, -, r, hr, t, ht, s1, s2, s3, s4, hx⟩ := hL p hpL
    rcases jk_row2 hP hq hr with zr | zr
    · exact ⟨_, List.mem_map.mpr ⟨r, hr, rfl⟩, zr, fun hh => (jk_x0 hh.1 hh.2 zr).1 hx, s1, s2⟩
    · rcases jk_row2 hP hq ht with zt | zt
      · exact ⟨_, List.mem_map.mpr ⟨t, ht, rfl⟩, zt, fun hh => (jk_x0 hh.1 hh.2 zt).2 hx, s3, s4⟩
      · exact absurd hx (jk_xZ zr zt)) (fun q hq a ha b hb qa qb => by
    obtain ⟨r, hr, rfl⟩ := List.mem_map.mp hq
    obtain ⟨zr, nr, a1, a2⟩ := qa
    obtain ⟨-, -, b1, b2⟩ := qb
    have la := hL a ha
    have lb := hL b hb
    have la2 := la.2.2.2.1
    have lb2 := lb.2.2.2.1
    have D : ∀ x y z : Int, 0 ≤ x → x < σ 103 56 → 0 ≤ y → y < σ 103 56 → 0 ≤ z → z < σ 103 56 → x ≠ y → x ≠ z → y ≠ z → ge_s r (jm_ct σ x) = 0 → ge_s r (jm_ct σ y) = 0 → ge_s r (jm_ct σ z) = 0 → False := fun x y z x0 x1 y0 y1 z0 z1 xy xz yz sx sy sz => jk_three zr nr (jm_tg hKN x0 x1).2.2.1 (jm_tg hKN y0 y1).2.2.1 (jm_tg hKN z0 z1).2.2.1 (hz x x0 x1) (hz y y0 y1) (hz z z0 z1) sx sy sz (hne x y x0 x1 y0 y1 xy) (hne x z x0 x1 z0 z1 xz) (hne y z y0 y1 z0 z1 yz)
    obtain ⟨i, j⟩ := a
    obtain ⟨i', j'⟩ := b
    dsimp only at *
    by_cases e1 : i = i'
    · by_cases e2 : j = j'
      · rw [e1, e2]
      · exact absurd (D i j j' (by omega) (by omega) (by omega) (by omega) (by omega) (by omega) (by omega) (by omega) e2 a1 a2 b2) (fun h => h)
    · by_cases e2 : i = j'
      · exact absurd (D i' i j (by omega) (by omega) (by omega) (by omega) (by omega) (by omega) (by omega) (by omega) (by omega) b1 a1 a2) (fun h => h)
      · exact absurd (D i i' j' (by omega) (by omega) (by omega) (by omega) (by omega) (by omega) e1 e2 (by omega) a1 b1 b2) (fun h => h))
  rw [List.length_map] at h
  have hl := jm_bk_len (σ := σ) (wo := -1) (mo := -1) hP.1.1 hP.1.2 (σ 103 5).toNat
  have hk := hP.2.2.1
  have e : (jm_R σ).length = (jm_RR (σ 103 3) (jm_bk σ (-1) (-1) (σ 103 5).toNat)).length := rfl
  omega
/-- area's sums stay in range -/
theorem jk_aP_ok {σ : jw_H} {C : List (ge_R × Int)} (hKN : jm_KN σ C) (hq : σ 103 3 = 2) : jk_aP σ (jk_aK σ) := by
  have hcb := (jm_kw_cbd hKN.1).2 σ (jm_fk_rf σ)
  have hcn := hcb.1
  refine Classical.epsilon_spec (p := jk_aP σ) ?_
  by_cases h0 : σ 103 56 = 0
  · refine ⟨1, by omega, fun i j i1 j1 hl => ?_, ?_⟩
    · have := hl.1
      omega
    · rw [h0]
      show (0 : Int) ≤ 9200000000000000000
      decide
  · obtain ⟨K, hK, hv⟩ := jk_K2 hKN.1.1 hq
    have hw : ∀ c : Int, 0 ≤ c → c < σ 103 56 → (0 < σ 135 c ∧ σ 135 c ≤ 18) ∧ σ 135 c ∣ K := fun c c0 c1 => by
      obtain ⟨-, -, hV, hg⟩ := jm_tg hKN c0 c1
      have hh := hv _ hV hg
      exact ⟨⟨hV.1.1, hh.1⟩, hh.2⟩
    have w0 := (hw 0 (by omega) (by omega)).1
    have p1 := jn_mb (a := σ 135 0) (b := σ 135 0) (A := 18) (B := 18) (by omega) (by omega)
    have p2 := jn_mb (a := K) (b := K) (A := 4084080) (B := 4084080) (by omega) (by omega)
    have p3 := jn_mb (a := σ 135 0 * σ 135 0) (b := K * K) (A := 324) (B := 16679709446400) (by omega) (by omega)
    have p4 := Int.mul_pos (Int.mul_pos w0.1 w0.1) (Int.mul_pos hK.1 hK.1)
    have hd : ∀ i j, 1 ≤ i → j < σ 103 56 → jk_lk σ i j → jk_l σ i j ∣ σ 135 0 * σ 135 0 * (K * K) := fun i j i1 j1 hl => by
      have := hl.1
      unfold jk_l
      rw [Int.mul_assoc (σ 135 0 * σ 135 0)]
      exact Int.mul_dvd_mul (Int.dvd_refl _) (Int.mul_dvd_mul (hw i (by omega) (by omega)).2 (hw j (by omega) j1).2)
    refine ⟨σ 135 0 * σ 135 0 * (K * K), by omega, hd, ?_⟩
    obtain ⟨L, l1, l2, l3⟩ := jk_aS_L hKN p4 hd (σ 103 56).toNat (by omega)
    have hl := jk_prs hKN hq (L := L) (fun p hp => by
      obtain ⟨a1, a2, a3, a4⟩ := l2 p hp
      exact ⟨a1, by omega, a3, a4⟩) l3
    have h5 := Int.mul_le_mul_of_nonneg_right (show (L.length : Int) ≤ 10 by omega) (show 0 ≤ 162 * (σ 135 0 * σ 135 0 * (K * K)) by omega)
    omega

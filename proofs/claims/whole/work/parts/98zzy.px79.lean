/-! ===== area: the sums; adding any fraction ===== -/
theorem jk_adg {N K x w : Int} (hK : 0 < K ∧ K ≤ 9200000000000000000) (hN : 0 ≤ N) (hw : 0 < w) (hx : 0 ≤ x) (hd : w ∣ K) (hT : N + x * (K / w) ≤ 9200000000000000000) : ((0 ≤ (jx_fr N K).1 ∧ (jx_fr N K).1 ≤ 9200000000000000000) ∧ (0 < (jx_fr N K).2 ∧ (jx_fr N K).2 ≤ 9200000000000000000)) ∧ (jm_bg ((jx_fr N K).1 * (w / (Int.gcd (jx_fr N K).2 w : Int)) + x * ((jx_fr N K).2 / (Int.gcd (jx_fr N K).2 w : Int))) ∧ (0 < (jx_fr N K).2 / (Int.gcd (jx_fr N K).2 w : Int) * w ∧ (jx_fr N K).2 / (Int.gcd (jx_fr N K).2 w : Int) * w ≤ 9200000000000000000)) ∧ jx_ad (jx_fr N K) x w = jx_fr (N + x * (K / w)) K := by
  have b0 := jx_fr_pos (u := N) (l := K) (by omega)
  obtain ⟨g, g0, e1, e2⟩ := jx_fr_gl (u := N) hK.1
  have L := jk_lcm b0 hw hK.1 ⟨g, e2⟩ hd
  obtain ⟨k, hk⟩ := hd
  have hk2 : K / w = k := by
    rw [hk]
    exact Int.mul_ediv_cancel_left _ (by omega)
  rw [hk2] at hT ⊢
  have had : jx_ad (jx_fr N K) x w = jx_fr (N + x * k) K := by
    rw [jx_ad_fr hK.1 hw]
    refine jx_fr_eq (Int.mul_pos hK.1 hw) hK.1 ?_
    rw [hk]
    grind
  have k0 : 0 < k := Int.lt_of_mul_lt_mul_left (a := w) (by rw [Int.mul_zero]; omega) (by omega)
  have xk := Int.mul_nonneg hx (Int.le_of_lt k0)
  refine ⟨?_, ?_, had⟩ <;> clear had <;> generalize (jx_fr N K).1 = a at * <;> generalize (jx_fr N K).2 = b at *
  · have h1 : 0 ≤ a := Int.le_of_mul_le_mul_right (a := g) (by rw [Int.zero_mul]; omega) g0
    have h3 := Int.mul_le_mul_of_nonneg_left (show 1 ≤ g by omega) (Int.le_of_lt b0)
    have h4 := Int.mul_le_mul_of_nonneg_left (show 1 ≤ g by omega) h1
    omega
  · have h1 : 0 ≤ a := Int.le_of_mul_le_mul_right (a := g) (by rw [Int.zero_mul]; omega) g0
    have G0 := Int.gcd_pos_of_ne_zero_right b (b := w) (by omega)
    have G1 : 0 < (Int.gcd b w : Int) := by omega
    obtain ⟨s, es⟩ := Int.gcd_dvd_left (a := b) (b := w)
    obtain ⟨t, et⟩ := Int.gcd_dvd_right (a := b) (b := w)
    generalize (Int.gcd b w : Int) = G at *
    have d1 : b / G = s := by rw [es, Int.mul_ediv_cancel_left _ (by omega)]
    have d2 : w / G = t := by rw [et, Int.mul_ediv_cancel_left _ (by omega)]
    rw [d1] at L
    rw [d1, d2]
    have s0 : 0 < s := Int.lt_of_mul_lt_mul_left (a := G) (by rw [Int.mul_zero]; omega) (by omega)
    have t0 : 0 < t := Int.lt_of_mul_lt_mul_left (a := G) (by rw [Int.mul_zero]; omega) (by omega)
    have p1 := Int.mul_pos s0 hw
    have p3 : s * w = b * t := by
      rw [es, et]
      grind
    have tg : t ≤ g := Int.le_of_mul_le_mul_left (a := b) (by omega) b0
    have sk : s ≤ k := Int.le_of_mul_le_mul_left (a := w) (by rw [Int.mul_comm w s, ← hk]; exact L) hw
    have q1 := Int.mul_le_mul_of_nonneg_left tg h1
    have q2 := Int.mul_le_mul_of_nonneg_left sk hx
    have q3 := Int.mul_nonneg h1 (Int.le_of_lt t0)
    have q4 := Int.mul_nonneg hx (Int.le_of_lt s0)
    refine ⟨?_, p1, by omega⟩
    unfold jm_bg
    omega
def jk_cr (σ : jw_H) (i j : Int) : Int := (σ 132 i * σ 135 0 - σ 132 0 * σ 135 i) * (σ 133 j * σ 135 0 - σ 133 0 * σ 135 j) - (σ 133 i * σ 135 0 - σ 133 0 * σ 135 i) * (σ 132 j * σ 135 0 - σ 132 0 * σ 135 j)
def jk_u (σ : jw_H) (i j : Int) : Int := if 0 ≤ jk_cr σ i j then jk_cr σ i j else -jk_cr σ i j
def jk_l (σ : jw_H) (i j : Int) : Int := σ 135 0 * σ 135 0 * σ 135 i * σ 135 j
def jk_lk (σ : jw_H) (i j : Int) : Prop := i < j ∧ jm_E1 σ (jm_ct σ i) (jm_ct σ j)
noncomputable def jk_aR (σ : jw_H) (K i : Int) : Nat → Int
  | 0 => 0
  | m + 1 => jk_aR σ K i m + jx_b (jk_lk σ i (m : Int)) * (jk_u σ i (m : Int) * (K / jk_l σ i (m : Int)))
noncomputable def jk_aS (σ : jw_H) (K : Int) : Nat → Int
  | 0 => 0
  | i + 1 => jk_aS σ K i + jx_b (1 ≤ (i : Int)) * jk_aR σ K (i : Int) (σ 103 56).toNat
def jk_aP (σ : jw_H) (K : Int) : Prop := (0 < K ∧ K ≤ 9200000000000000000) ∧ (∀ i j, 1 ≤ i → j < σ 103 56 → jk_lk σ i j → jk_l σ i j ∣ K) ∧ jk_aS σ K (σ 103 56).toNat ≤ 9200000000000000000
noncomputable def jk_aK (σ : jw_H) : Int := Classical.epsilon (jk_aP σ)
noncomputable def jk_afr (σ : jw_H) : Int × Int := jx_fr (jk_aS σ (jk_aK σ) (σ 103 56).toNat) (jk_aK σ)
/-- the answers of area -/
def jk_ara (σ : jw_H) (t v : Int) : Prop := (v = -1 ∧ ¬ (t = 0 ∨ t = 1)) ∨ ((t = 0 ∨ t = 1) ∧ ((v = -3 ∧ σ 103 3 ≠ 2) ∨ (σ 103 3 = 2 ∧ v = if t = 0 then (jk_afr σ).1 else (jk_afr σ).2)))
theorem jk_ara_uq {σ : jw_H} {t u v : Int} (h1 : jk_ara σ t u) (h2 : jk_ara σ t v) : u = v := by
  rcases h1 with ⟨e1, a1⟩ | ⟨a1, ⟨e1, b1⟩ | ⟨b1, e1⟩⟩ <;> rcases h2 with ⟨e2, a2⟩ | ⟨a2, ⟨e2, b2⟩ | ⟨b2, e2⟩⟩ <;> first | exact e1.trans e2.symm | exact absurd a1 a2 | exact absurd a2 a1 | exact absurd b1 b2 | exact absurd b2 b1
theorem jk_aR_me {σ0 σ : jw_H} (h : jx_me σ0 σ) (hP : jm_Pb σ0) (K i : Int) : ∀ m, jk_aR σ K i m = jk_aR σ0 K i m
  | 0 => rfl
  | m + 1 => by
    show jk_aR σ K i m + jx_b (jk_lk σ i (m : Int)) * (jk_u σ i (m : Int) * (K / jk_l σ i (m : Int))) = jk_aR σ0 K i m + jx_b (jk_lk σ0 i (m : Int)) * (jk_u σ0 i (m : Int) * (K / jk_l σ0 i (m : Int)))
    rw [jk_aR_me h hP K i m]
    unfold jk_lk jk_u jk_l jk_cr jm_E1
    rw [jx_me_R h hP, jx_me_ct h, jx_me_ct h, h 132 (by omega), h 133 (by omega), h 135 (by omega)]
theorem jk_aS_me {σ0 σ : jw_H} (h : jx_me σ0 σ) (hP : jm_Pb σ0) (K : Int) : ∀ i, jk_aS σ K i = jk_aS σ0 K i
  | 0 => rfl
  | i + 1 => by
    show jk_aS σ K i + jx_b (1 ≤ (i : Int)) * jk_aR σ K (i : Int) (σ 103 56).toNat = jk_aS σ0 K i + jx_b (1 ≤ (i : Int)) * jk_aR σ0 K (i : Int) (σ0 103 56).toNat
    rw [jk_aS_me h hP K i, jk_aR_me h hP, h 103 (by omega)]
theorem jk_ara_me {σ0 σ : jw_H} (h : jx_me σ0 σ) (hP : jm_Pb σ0) (t v : Int) : jk_ara σ t v ↔ jk_ara σ0 t v := by
  have e : jk_aP σ = jk_aP σ0 := by
    funext K
    unfold jk_aP jk_lk jk_l jm_E1
    simp only [jx_me_R h hP, jx_me_ct h, jk_aS_me h hP, h 103 (by omega), h 135 (by omega)]
  unfold jk_ara jk_afr jk_aK
  rw [e, jk_aS_me h hP, h 103 (by omega)]
theorem jk_w {σ : jw_H} (hcb : jm_cbd σ) {i : Int} (i0 : 0 ≤ i) (i1 : i < σ 103 56) : ((0 ≤ σ 132 i ∧ σ 132 i ≤ 1458) ∧ (0 ≤ σ 133 i ∧ σ 133 i ≤ 1458)) ∧ (0 < σ 135 i ∧ σ 135 i ≤ 162) := by
  obtain ⟨⟨h1, h2, h3, h4⟩, h5⟩ := hcb.2 i i0 i1
  exact ⟨⟨h1, h2⟩, h4.1, h5⟩
theorem jk_l_bd {σ : jw_H} (hcb : jm_cbd σ) {i j : Int} (i0 : 0 ≤ i) (i1 : i < σ 103 56) (j0 : 0 ≤ j) (j1 : j < σ 103 56) : 0 < jk_l σ i j ∧ jk_l σ i j ≤ 688747536 := by
  have w0 := (jk_w hcb (i := 0) (by omega) (by omega)).2
  have wi := (jk_w hcb i0 i1).2
  have wj := (jk_w hcb j0 j1).2
  unfold jk_l
  generalize σ 135 0 = a at *
  generalize σ 135 i = b at *
  generalize σ 135 j = c at *
  have p1 := jn_mb (a := a) (b := a) (A := 162) (B := 162) (by omega) (by omega)
  have p2 := jn_mb (a := a * a) (b := b) (A := 26244) (B := 162) (by omega) (by omega)
  have p3 := jn_mb (a := a * a * b) (b := c) (A := 4251528) (B := 162) (by omega) (by omega)
  have q := Int.mul_pos (Int.mul_pos (Int.mul_pos w0.1 w0.1) wi.1) wj.1
  omega
theorem jk_m2 {a b A B : Int} (ha : -A ≤ a ∧ a ≤ A) (hb : -B ≤ b ∧ b ≤ B) (A0 : 0 ≤ A) (B0 : 0 ≤ B) : -(A * B) ≤ a * b ∧ a * b ≤ A * B := by
  by_cases h1 : 0 ≤ a <;> by_cases h2 : 0 ≤ b
  · have := jn_mb (a := a) (b := b) (A := A) (B := B) ⟨h1, ha.2⟩ ⟨h2, hb.2⟩
    omega
  · have := jn_mb (a := a) (b := -b) (A := A) (B := B) ⟨h1, ha.2⟩ ⟨by omega, by omega⟩
    rw [Int.mul_neg] at this
    omega
  · have := jn_mb (a := -a) (b := b) (A := A) (B := B) ⟨by omega, by omega⟩ ⟨h2, hb.2⟩
    rw [Int.neg_mul] at this
    omega
  · have := jn_mb (a := -a) (b := -b) (A := A) (B := B) ⟨by omega, by omega⟩ ⟨by omega, by omega⟩
    rw [Int.neg_mul_neg] at this
    omega
theorem jk_cr_bd {σ : jw_H} (hcb : jm_cbd σ) {i j : Int} (i0 : 0 ≤ i) (i1 : i < σ 103 56) (j0 : 0 ≤ j) (j1 : j < σ 103 56) : -200000000000 ≤ jk_cr σ i j ∧ jk_cr σ i j ≤ 200000000000 := by
  have c0 := jk_w hcb (i := 0) (by omega) (by omega)
  have ci := jk_w hcb i0 i1
  have cj := jk_w hcb j0 j1
  unfold jk_cr
  have a1 := jn_mb (a := σ 132 i) (b := σ 135 0) (A := 1458) (B := 162) (by omega) (by omega)
  have a2 := jn_mb (a := σ 132 0) (b := σ 135 i) (A := 1458) (B := 162) (by omega) (by omega)
  have a3 := jn_mb (a := σ 133 j) (b := σ 135 0) (A := 1458) (B := 162) (by omega) (by omega)
  have a4 := jn_mb (a := σ 133 0) (b := σ 135 j) (A := 1458) (B := 162) (by omega) (by omega)
  have a5 := jn_mb (a := σ 133 i) (b := σ 135 0) (A := 1458) (B := 162) (by omega) (by omega)
  have a6 := jn_mb (a := σ 133 0) (b := σ 135 i) (A := 1458) (B := 162) (by omega) (by omega)
  have a7 := jn_mb (a := σ 132 j) (b := σ 135 0) (A := 1458) (B := 162) (by omega) (by omega)
  have a8 := jn_mb (a := σ 132 0) (b := σ 135 j) (A := 1458) (B := 162) (by omega) (by omega)
  have b1 := jk_m2 (a := σ 132 i * σ 135 0 - σ 132 0 * σ 135 i) (b := σ 133 j * σ 135 0 - σ 133 0 * σ 135 j) (A := 236196) (B := 236196) (by omega) (by omega) (by omega) (by omega)
  have b2 := jk_m2 (a := σ 133 i * σ 135 0 - σ 133 0 * σ 135 i) (b := σ 132 j * σ 135 0 - σ 132 0 * σ 135 j) (A := 236196) (B := 236196) (by omega) (by omega) (by omega) (by omega)
  omega
theorem jk_u_0 (σ : jw_H) (i j : Int) : 0 ≤ jk_u σ i j := by
  unfold jk_u
  split <;> omega
theorem jk_aR_s {σ : jw_H} {K i j : Int} (j0 : 0 ≤ j) : jk_aR σ K i (j + 1).toNat = jk_aR σ K i j.toNat + jx_b (jk_lk σ i j) * (jk_u σ i j * (K / jk_l σ i j)) := by
  rw [show (j + 1).toNat = j.toNat + 1 by omega]
  show jk_aR σ K i j.toNat + jx_b (jk_lk σ i (j.toNat : Int)) * (jk_u σ i (j.toNat : Int) * (K / jk_l σ i (j.toNat : Int))) = _
  rw [Int.toNat_of_nonneg j0]
theorem jk_aS_s {σ : jw_H} {K i : Int} (i1 : 1 ≤ i) : jk_aS σ K (i + 1).toNat = jk_aS σ K i.toNat + jk_aR σ K i (σ 103 56).toNat := by
  rw [show (i + 1).toNat = i.toNat + 1 by omega]
  show jk_aS σ K i.toNat + jx_b (1 ≤ (i.toNat : Int)) * jk_aR σ K (i.toNat : Int) (σ 103 56).toNat = _
  rw [Int.toNat_of_nonneg (by omega), jx_b_1 i1, Int.one_mul]
theorem jk_aR_lo {σ : jw_H} {K i : Int} : ∀ m : Nat, (m : Int) ≤ i + 1 → jk_aR σ K i m = 0
  | 0, _ => rfl
  | m + 1, h => by
    show jk_aR σ K i m + jx_b (jk_lk σ i (m : Int)) * (jk_u σ i (m : Int) * (K / jk_l σ i (m : Int))) = 0
    rw [jk_aR_lo m (by omega), jx_b_0 (fun hh => by have := hh.1; omega), Int.zero_mul, Int.add_zero]
theorem jk_aS_1 (σ : jw_H) (K : Int) : jk_aS σ K 1 = 0 := by
  show (0 : Int) + jx_b (1 ≤ ((0 : Nat) : Int)) * jk_aR σ K ((0 : Nat) : Int) (σ 103 56).toNat = 0
  rw [jx_b_0 (by decide), Int.zero_mul, Int.add_zero]
theorem jk_tm {σ : jw_H} (hcb : jm_cbd σ) {K i j : Int} (hK : 0 < K) (i0 : 0 ≤ i) (i1 : i < σ 103 56) (j0 : 0 ≤ j) (j1 : j < σ 103 56) : 0 ≤ jk_u σ i j * (K / jk_l σ i j) := Int.mul_nonneg (jk_u_0 σ i j) (Int.ediv_nonneg (Int.le_of_lt hK) (Int.le_of_lt (jk_l_bd hcb i0 i1 j0 j1).1))
theorem jk_aR_mono {σ : jw_H} (hcb : jm_cbd σ) {K i : Int} (hK : 0 < K) (i0 : 0 ≤ i) (i1 : i < σ 103 56) {a : Nat} : ∀ {b : Nat}, a ≤ b → (b : Int) ≤ σ 103 56 → jk_aR σ K i a ≤ jk_aR σ K i b
  | 0, h, _ => by
    have : a = 0 := by omega
    rw [this]
    exact Int.le_refl _
  | b + 1, h, h2 => by
    by_cases e : a = b + 1
    · rw [e]
      exact Int.le_refl _
    · have h3 := jk_aR_mono hcb hK i0 i1 (a := a) (b := b) (by omega) (by omega)
      have h4 := jk_tm hcb hK i0 i1 (j := (b : Int)) (by omega) (by omega)
      show _ ≤ jk_aR σ K i b + jx_b (jk_lk σ i (b : Int)) * (jk_u σ i (b : Int) * (K / jk_l σ i (b : Int)))
      rcases jx_b_01 (jk_lk σ i (b : Int)) with hb | hb
      · rw [hb, Int.zero_mul]
        omega
      · rw [hb, Int.one_mul]
        omega
theorem jk_aR_0 {σ : jw_H} (hcb : jm_cbd σ) {K i : Int} (hK : 0 < K) (i0 : 0 ≤ i) (i1 : i < σ 103 56) {b : Nat} (hb : (b : Int) ≤ σ 103 56) : 0 ≤ jk_aR σ K i b := jk_aR_mono hcb hK i0 i1 (a := 0) (Nat.zero_le b) hb
theorem jk_aS_mono {σ : jw_H} (hcb : jm_cbd σ) {K : Int} (hK : 0 < K) {a : Nat} : ∀ {b : Nat}, a ≤ b → (b : Int) ≤ σ 103 56 → jk_aS σ K a ≤ jk_aS σ K b
  | 0, h, _ => by
    have : a = 0 := by omega
    rw [this]
    exact Int.le_refl _
  | b + 1, h, h2 => by
    by_cases e : a = b + 1
    · rw [e]
      exact Int.le_refl _
    · have h3 := jk_aS_mono hcb hK (a := a) (b := b) (by omega) (by omega)
      have hcn := hcb.1
      have h4 := jk_aR_0 hcb hK (i := (b : Int)) (by omega) (by omega) (b := (σ 103 56).toNat) (by omega)
      show _ ≤ jk_aS σ K b + jx_b (1 ≤ (b : Int)) * jk_aR σ K (b : Int) (σ 103 56).toNat
      rcases jx_b_01 (1 ≤ (b : Int)) with hb | hb
      · rw [hb, Int.zero_mul]
        omega
      · rw [hb, Int.one_mul]
        omega
theorem jk_pt {σ : jw_H} (hcb : jm_cbd σ) {K : Int} (hK : jk_aP σ K) {i j : Int} (i1 : 1 ≤ i) (ij : i < j) (j1 : j < σ 103 56) (hl : jk_lk σ i j) : 0 ≤ jk_aS σ K i.toNat + jk_aR σ K i j.toNat ∧ jk_aS σ K i.toNat + jk_aR σ K i j.toNat + jk_u σ i j * (K / jk_l σ i j) ≤ 9200000000000000000 := by
  have h1 := jk_aR_mono hcb hK.1.1 (show 0 ≤ i by omega) (by omega) (a := (j + 1).toNat) (b := (σ 103 56).toNat) (by omega) (by omega)
  rw [jk_aR_s (by omega), jx_b_1 hl, Int.one_mul] at h1
  have h2 := jk_aS_mono hcb hK.1.1 (a := (i + 1).toNat) (b := (σ 103 56).toNat) (by omega) (by omega)
  rw [jk_aS_s i1] at h2
  have h3 := hK.2.2
  have h4 := jk_aS_mono hcb hK.1.1 (a := 0) (b := i.toNat) (by omega) (by omega)
  have h5 := jk_aR_0 hcb hK.1.1 (show 0 ≤ i by omega) (by omega) (b := j.toNat) (by omega)
  have h6 : jk_aS σ K 0 = 0 := rfl
  omega
theorem jk_adds2 {n : Nat} {σ : jw_H} {x w N K : Int} (hK : 0 < K ∧ K ≤ 9200000000000000000) (hN : 0 ≤ N) (hw : 0 < w ∧ w ≤ 688747536) (hx : 0 ≤ x ∧ x ≤ 200000000000) (hd : w ∣ K) (hT : N + x * (K / w) ≤ 9200000000000000000) (H : (σ 103 68, σ 103 69) = jx_fr N K)  : jw_T (js_S n) 3 310 [.inr (.inr 103), .inr (.inl x), .inr (.inl w)] σ (fun r σ' => r = none ∧ jk_68 σ σ' ∧ (σ' 103 68, σ' 103 69) = jx_fr (N + x * (K / w)) K) := by
  refine jw_T_of (D := 2) (M := mm_310) rfl (Nat.le_of_ble_eq_true rfl) (ls0 := [some (.inr (.inr 103)), some (.inr (.inl x)), none, some (.inr (.inl w)), none, none, none, none, none, none, none, none, none, none, none]) rfl ?_ (by rintro _ _ ⟨rfl, -⟩; rfl)
  have hof := jk_of0 (u := x) (l := w) hw.1
  obtain ⟨g, g0, e1, e2⟩ := jx_fr_gl (u := x) hw.1
  have l0 := jx_fr_pos (u := x) (l := w) (by omega)
  have l1 := jx_fr_le (u := x) (l := w) hw.1
  have u0 : 0 ≤ (jx_fr x w).1 := Int.le_of_mul_le_mul_right (a := g) (by rw [Int.zero_mul]; omega) g0
  have u1 : (jx_fr x w).1 ≤ x := by
    have := Int.mul_le_mul_of_nonneg_left (show 1 ≤ g by omega) u0
    omega
  have hdl : (jx_fr x w).2 ∣ K := Int.dvd_trans ⟨g, e2⟩ hd
  have eN : (jx_fr x w).1 * (K / (jx_fr x w).2) = x * (K / w) := by
    obtain ⟨k, hk⟩ := hd
    have k1 : K / w = k := by
      rw [hk]
      exact Int.mul_ediv_cancel_left _ (by omega)
    have k2 : K / (jx_fr x w).2 = g * k := by
      have : K = (jx_fr x w).2 * (g * k) := by rw [← Int.mul_assoc, ← e2]; exact hk
      rw [this]
      exact Int.mul_ediv_cancel_left _ (by omega)
    rw [k1, k2, ← Int.mul_assoc, ← e1]
  obtain ⟨⟨a1, a2⟩, ⟨a3, a4⟩, a5⟩ := jk_adg hK hN l0 u0 hdl (by rw [eN]; exact hT)
  rw [eN] at a5
  have h8 : σ 103 68 = (jx_fr N K).1 := congrArg Prod.fst H
  have h9 : σ 103 69 = (jx_fr N K).2 := congrArg Prod.snd H
  have a6 := a5
  unfold jx_ad at a6
  rw [← h8] at a1
  rw [← h8, ← h9] at a3 a6
  rw [← h9] at a2 a4
  have g1 := Int.gcd_pos_of_ne_zero_right (σ 103 69) (b := (jx_fr x w).2) (by omega)
  have g2 : (Int.gcd (σ 103 69) (jx_fr x w).2 : Int) ≤ (jx_fr x w).2 := Int.le_of_dvd l0 (Int.gcd_dvd_right _ _)
  have f1 := jm_ldiv_ex (x := (jx_fr x w).2) (by unfold jm_bg; omega) (show 0 < (Int.gcd (σ 103 69) (jx_fr x w).2 : Int) by omega) (by omega) (Int.gcd_dvd_right _ _)
  have f2 := jm_ldiv_ex (x := σ 103 69) (by unfold jm_bg; omega) (show 0 < (Int.gcd (σ 103 69) (jx_fr x w).2 : Int) by omega) (by omega) (Int.gcd_dvd_left _ _)
  have hS2 : jm_bg (σ 103 68 * ((jx_fr x w).2 / (Int.gcd (σ 103 69) ((jx_fr x w).2) : Int)) + (jx_fr x w).1 * (σ 103 69 / (Int.gcd (σ 103 69) ((jx_fr x w).2) : Int))) := a3
  have hT0 : 0 < σ 103 69 / (Int.gcd (σ 103 69) ((jx_fr x w).2) : Int) * (jx_fr x w).2 := a4.1
  have hT1 : σ 103 69 / (Int.gcd (σ 103 69) ((jx_fr x w).2) : Int) * (jx_fr x w).2 ≤ 9200000000000000000 := a4.2
  have hofS := jk_of0 (u := σ 103 68 * ((jx_fr x w).2 / (Int.gcd (σ 103 69) ((jx_fr x w).2) : Int)) + (jx_fr x w).1 * (σ 103 69 / (Int.gcd (σ 103 69) ((jx_fr x w).2) : Int))) (l := σ 103 69 / (Int.gcd (σ 103 69) ((jx_fr x w).2) : Int) * (jx_fr x w).2) hT0
  have hS3 := hS2
  unfold jm_bg at hS3
  have frS := jx_fr_bd (u := σ 103 68 * ((jx_fr x w).2 / (Int.gcd (σ 103 69) ((jx_fr x w).2) : Int)) + (jx_fr x w).1 * (σ 103 69 / (Int.gcd (σ 103 69) ((jx_fr x w).2) : Int))) (l := σ 103 69 / (Int.gcd (σ 103 69) ((jx_fr x w).2) : Int) * (jx_fr x w).2) (B := 9200000000000000000) hT0 (by omega) hS3
  have hfin : ((jx_fr (σ 103 68 * ((jx_fr x w).2 / (Int.gcd (σ 103 69) ((jx_fr x w).2) : Int)) + (jx_fr x w).1 * (σ 103 69 / (Int.gcd (σ 103 69) ((jx_fr x w).2) : Int))) (σ 103 69 / (Int.gcd (σ 103 69) ((jx_fr x w).2) : Int) * (jx_fr x w).2)).1, (jx_fr (σ 103 68 * ((jx_fr x w).2 / (Int.gcd (σ 103 69) ((jx_fr x w).2) : Int)) + (jx_fr x w).1 * (σ 103 69 / (Int.gcd (σ 103 69) ((jx_fr x w).2) : Int))) (σ 103 69 / (Int.gcd (σ 103 69) ((jx_fr x w).2) : Int) * (jx_fr x w).2)).2) = jx_fr (N + x * (K / w)) K := a6
  refine jw_W_n 3 (i' := 3) (ls' := [some (.inr (.inr 103)), some (.inr (.inl x)), none, some (.inr (.inl w)), none, none, none, none, none, none, none, none, none, none, none]) (st' := [.inl 0, .inr (.inl w), .inr (.inl x)]) rfl ?_
  refine jw_W_call (as := [.inr (.inl x), .inr (.inl w), .inl 0]) (rest := []) rfl rfl rfl rfl (Nat.le_of_ble_eq_true rfl) (.inl rfl) (jm_ofFr (by unfold jm_bg; omega) (by omega) (by omega) (by unfold jw_rg; omega)) (by omega) ?_ rfl
  rintro r1 σz ⟨rfl, hs⟩
  rw [hs]
  rw [hof.1]
  show jw_W (js_S n) _ md_310 4 [some (.inr (.inr 103)), some (.inr (.inl x)), none, some (.inr (.inl w)), none, none, none, none, none, none, none, none, none, none, none] [.inr (.inl ((jx_fr x w).1))] σ _
  refine jw_W_n 4 (i' := 8) (ls' := [some (.inr (.inr 103)), some (.inr (.inl x)), none, some (.inr (.inl w)), none, some (.inr (.inl ((jx_fr x w).1))), none, none, none, none, none, none, none, none, none]) (st' := [.inl 1, .inr (.inl w), .inr (.inl x)]) rfl ?_
  refine jw_W_call (as := [.inr (.inl x), .inr (.inl w), .inl 1]) (rest := []) rfl rfl rfl rfl (Nat.le_of_ble_eq_true rfl) (.inl rfl) (jm_ofFr (by unfold jm_bg; omega) (by omega) (by omega) (by unfold jw_rg; omega)) (by omega) ?_ rfl
  rintro r1 σz ⟨rfl, hs⟩
  rw [hs]
  rw [hof.2]
  show jw_W (js_S n) _ md_310 9 [some (.inr (.inr 103)), some (.inr (.inl x)), none, some (.inr (.inl w)), none, some (.inr (.inl ((jx_fr x w).1))), none, none, none, none, none, none, none, none, none] [.inr (.inl ((jx_fr x w).2))] σ _
  refine jw_W_n 2 (i' := 11) (ls' := [some (.inr (.inr 103)), some (.inr (.inl x)), none, some (.inr (.inl w)), none, some (.inr (.inl ((jx_fr x w).1))), none, some (.inr (.inl ((jx_fr x w).2))), none, none, none, none, none, none, none]) (st' := [.inr (.inr 103)]) rfl ?_
  refine jw_W_gf rfl rfl rfl ?_
  show jw_W (js_S n) _ md_310 12 [some (.inr (.inr 103)), some (.inr (.inl x)), none, some (.inr (.inl w)), none, some (.inr (.inl ((jx_fr x w).1))), none, some (.inr (.inl ((jx_fr x w).2))), none, none, none, none, none, none, none] [.inr (.inl (σ 103 69))] σ _
  refine jw_W_n 1 (i' := 13) (ls' := [some (.inr (.inr 103)), some (.inr (.inl x)), none, some (.inr (.inl w)), none, some (.inr (.inl ((jx_fr x w).1))), none, some (.inr (.inl ((jx_fr x w).2))), none, none, none, none, none, none, none]) (st' := [.inr (.inl ((jx_fr x w).2)), .inr (.inl (σ 103 69))]) rfl ?_
  refine jw_W_call (as := [.inr (.inl (σ 103 69)), .inr (.inl ((jx_fr x w).2))]) (rest := []) rfl rfl rfl rfl (Nat.le_of_ble_eq_true rfl) (.inl rfl) (jm_gcd (by unfold jw_rgl; omega) (by omega) (by unfold jw_rgl; omega) (by omega)) (by omega) ?_ rfl
  rintro r1 σz ⟨rfl, hs⟩
  rw [hs]
  show jw_W (js_S n) _ md_310 14 [some (.inr (.inr 103)), some (.inr (.inl x)), none, some (.inr (.inl w)), none, some (.inr (.inl ((jx_fr x w).1))), none, some (.inr (.inl ((jx_fr x w).2))), none, none, none, none, none, none, none] [.inr (.inl ((Int.gcd (σ 103 69) ((jx_fr x w).2) : Int)))] σ _
  refine jw_W_n 2 (i' := 16) (ls' := [some (.inr (.inr 103)), some (.inr (.inl x)), none, some (.inr (.inl w)), none, some (.inr (.inl ((jx_fr x w).1))), none, some (.inr (.inl ((jx_fr x w).2))), none, some (.inr (.inl ((Int.gcd (σ 103 69) ((jx_fr x w).2) : Int)))), none, none, none, none, none]) (st' := [.inr (.inr 103)]) rfl ?_
  refine jw_W_gf rfl rfl rfl ?_
  show jw_W (js_S n) _ md_310 17 [some (.inr (.inr 103)), some (.inr (.inl x)), none, some (.inr (.inl w)), none, some (.inr (.inl ((jx_fr x w).1))), none, some (.inr (.inl ((jx_fr x w).2))), none, some (.inr (.inl ((Int.gcd (σ 103 69) ((jx_fr x w).2) : Int)))), none, none, none, none, none] [.inr (.inl (σ 103 68))] σ _
  refine jw_W_n 2 (i' := 19) (ls' := [some (.inr (.inr 103)), some (.inr (.inl x)), none, some (.inr (.inl w)), none, some (.inr (.inl ((jx_fr x w).1))), none, some (.inr (.inl ((jx_fr x w).2))), none, some (.inr (.inl ((Int.gcd (σ 103 69) ((jx_fr x w).2) : Int)))), none, none, none, none, none]) (st' := [.inr (.inl ((Int.gcd (σ 103 69) ((jx_fr x w).2) : Int))), .inr (.inl ((jx_fr x w).2)), .inr (.inl (σ 103 68))]) rfl ?_
  refine jw_W_ldiv rfl (by unfold jw_rgl; omega) (by omega) ?_
  rw [f1]
  refine jw_W_n 3 (i' := 23) (ls' := [some (.inr (.inr 103)), some (.inr (.inl x)), none, some (.inr (.inl w)), none, some (.inr (.inl ((jx_fr x w).1))), none, some (.inr (.inl ((jx_fr x w).2))), none, some (.inr (.inl ((Int.gcd (σ 103 69) ((jx_fr x w).2) : Int)))), none, none, none, none, none]) (st' := [.inr (.inr 103), .inr (.inl ((jx_fr x w).1)), .inr (.inl ((σ 103 68) * ((jx_fr x w).2 / (Int.gcd (σ 103 69) ((jx_fr x w).2) : Int))))]) rfl ?_
  refine jw_W_gf rfl rfl rfl ?_
  show jw_W (js_S n) _ md_310 24 [some (.inr (.inr 103)), some (.inr (.inl x)), none, some (.inr (.inl w)), none, some (.inr (.inl ((jx_fr x w).1))), none, some (.inr (.inl ((jx_fr x w).2))), none, some (.inr (.inl ((Int.gcd (σ 103 69) ((jx_fr x w).2) : Int)))), none, none, none, none, none] [.inr (.inl (σ 103 69)), .inr (.inl ((jx_fr x w).1)), .inr (.inl ((σ 103 68) * ((jx_fr x w).2 / (Int.gcd (σ 103 69) ((jx_fr x w).2) : Int))))] σ _
  refine jw_W_n 1 (i' := 25) (ls' := [some (.inr (.inr 103)), some (.inr (.inl x)), none, some (.inr (.inl w)), none, some (.inr (.inl ((jx_fr x w).1))), none, some (.inr (.inl ((jx_fr x w).2))), none, some (.inr (.inl ((Int.gcd (σ 103 69) ((jx_fr x w).2) : Int)))), none, none, none, none, none]) (st' := [.inr (.inl ((Int.gcd (σ 103 69) ((jx_fr x w).2) : Int))), .inr (.inl (σ 103 69)), .inr (.inl ((jx_fr x w).1)), .inr (.inl ((σ 103 68) * ((jx_fr x w).2 / (Int.gcd (σ 103 69) ((jx_fr x w).2) : Int))))]) rfl ?_
  refine jw_W_ldiv rfl (by unfold jw_rgl; omega) (by omega) ?_
  rw [f2]
  refine jw_W_n 4 (i' := 30) (ls' := [some (.inr (.inr 103)), some (.inr (.inl x)), none, some (.inr (.inl w)), none, some (.inr (.inl ((jx_fr x w).1))), none, some (.inr (.inl ((jx_fr x w).2))), none, some (.inr (.inl ((Int.gcd (σ 103 69) ((jx_fr x w).2) : Int)))), none, some (.inr (.inl (((σ 103 68) * ((jx_fr x w).2 / (Int.gcd (σ 103 69) ((jx_fr x w).2) : Int))) + (((jx_fr x w).1) * (σ 103 69 / (Int.gcd (σ 103 69) ((jx_fr x w).2) : Int)))))), none, none, none]) (st' := [.inr (.inr 103)]) rfl ?_
  refine jw_W_gf rfl rfl rfl ?_
  show jw_W (js_S n) _ md_310 31 [some (.inr (.inr 103)), some (.inr (.inl x)), none, some (.inr (.inl w)), none, some (.inr (.inl ((jx_fr x w).1))), none, some (.inr (.inl ((jx_fr x w).2))), none, some (.inr (.inl ((Int.gcd (σ 103 69) ((jx_fr x w).2) : Int)))), none, some (.inr (.inl (((σ 103 68) * ((jx_fr x w).2 / (Int.gcd (σ 103 69) ((jx_fr x w).2) : Int))) + (((jx_fr x w).1) * (σ 103 69 / (Int.gcd (σ 103 69) ((jx_fr x w).2) : Int)))))), none, none, none] [.inr (.inl (σ 103 69))] σ _
  refine jw_W_n 1 (i' := 32) (ls' := [some (.inr (.inr 103)), some (.inr (.inl x)), none, some (.inr (.inl w)), none, some (.inr (.inl ((jx_fr x w).1))), none, some (.inr (.inl ((jx_fr x w).2))), none, some (.inr (.inl ((Int.gcd (σ 103 69) ((jx_fr x w).2) : Int)))), none, some (.inr (.inl (((σ 103 68) * ((jx_fr x w).2 / (Int.gcd (σ 103 69) ((jx_fr x w).2) : Int))) + (((jx_fr x w).1) * (σ 103 69 / (Int.gcd (σ 103 69) ((jx_fr x w).2) : Int)))))), none, none, none]) (st' := [.inr (.inl ((Int.gcd (σ 103 69) ((jx_fr x w).2) : Int))), .inr (.inl (σ 103 69))]) rfl ?_
  refine jw_W_ldiv rfl (by unfold jw_rgl; omega) (by omega) ?_
  rw [f2]
  refine jw_W_n 7 (i' := 40) (ls' := [some (.inr (.inr 103)), some (.inr (.inl x)), none, some (.inr (.inl w)), none, some (.inr (.inl ((jx_fr x w).1))), none, some (.inr (.inl ((jx_fr x w).2))), none, some (.inr (.inl ((Int.gcd (σ 103 69) ((jx_fr x w).2) : Int)))), none, some (.inr (.inl (((σ 103 68) * ((jx_fr x w).2 / (Int.gcd (σ 103 69) ((jx_fr x w).2) : Int))) + (((jx_fr x w).1) * (σ 103 69 / (Int.gcd (σ 103 69) ((jx_fr x w).2) : Int)))))), none, some (.inr (.inl ((σ 103 69 / (Int.gcd (σ 103 69) ((jx_fr x w).2) : Int)) * ((jx_fr x w).2)))), none]) (st' := [.inl 0, .inr (.inl ((σ 103 69 / (Int.gcd (σ 103 69) ((jx_fr x w).2) : Int)) * ((jx_fr x w).2))), .inr (.inl (((σ 103 68) * ((jx_fr x w).2 / (Int.gcd (σ 103 69) ((jx_fr x w).2) : Int))) + (((jx_fr x w).1) * (σ 103 69 / (Int.gcd (σ 103 69) ((jx_fr x w).2) : Int))))), .inr (.inr 103)]) rfl ?_
  refine jw_W_call (as := [.inr (.inl (((σ 103 68) * ((jx_fr x w).2 / (Int.gcd (σ 103 69) ((jx_fr x w).2) : Int))) + (((jx_fr x w).1) * (σ 103 69 / (Int.gcd (σ 103 69) ((jx_fr x w).2) : Int))))), .inr (.inl ((σ 103 69 / (Int.gcd (σ 103 69) ((jx_fr x w).2) : Int)) * ((jx_fr x w).2))), .inl 0]) (rest := [.inr (.inr 103)]) rfl rfl rfl rfl (Nat.le_of_ble_eq_true rfl) (.inl rfl) (jm_ofFr hS2 hT0 (by omega) (by unfold jw_rg; omega)) (by omega) ?_ rfl
  rintro r1 σz ⟨rfl, hs⟩
  rw [hs]
  rw [hofS.1]
  show jw_W (js_S n) _ md_310 41 [some (.inr (.inr 103)), some (.inr (.inl x)), none, some (.inr (.inl w)), none, some (.inr (.inl ((jx_fr x w).1))), none, some (.inr (.inl ((jx_fr x w).2))), none, some (.inr (.inl ((Int.gcd (σ 103 69) ((jx_fr x w).2) : Int)))), none, some (.inr (.inl (((σ 103 68) * ((jx_fr x w).2 / (Int.gcd (σ 103 69) ((jx_fr x w).2) : Int))) + (((jx_fr x w).1) * (σ 103 69 / (Int.gcd (σ 103 69) ((jx_fr x w).2) : Int)))))), none, some (.inr (.inl ((σ 103 69 / (Int.gcd (σ 103 69) ((jx_fr x w).2) : Int)) * ((jx_fr x w).2)))), none] [.inr (.inl ((jx_fr (σ 103 68 * ((jx_fr x w).2 / (Int.gcd (σ 103 69) ((jx_fr x w).2) : Int)) + (jx_fr x w).1 * (σ 103 69 / (Int.gcd (σ 103 69) ((jx_fr x w).2) : Int))) (σ 103 69 / (Int.gcd (σ 103 69) ((jx_fr x w).2) : Int) * (jx_fr x w).2)).1)), .inr (.inr 103)] σ _
  refine jw_W_pf (a := (jx_fr (σ 103 68 * ((jx_fr x w).2 / (Int.gcd (σ 103 69) ((jx_fr x w).2) : Int)) + (jx_fr x w).1 * (σ 103 69 / (Int.gcd (σ 103 69) ((jx_fr x w).2) : Int))) (σ 103 69 / (Int.gcd (σ 103 69) ((jx_fr x w).2) : Int) * (jx_fr x w).2)).1) rfl (by omega) rfl rfl rfl rfl rfl ?_
  refine jw_W_n 4 (i' := 46) (ls' := [some (.inr (.inr 103)), some (.inr (.inl x)), none, some (.inr (.inl w)), none, some (.inr (.inl ((jx_fr x w).1))), none, some (.inr (.inl ((jx_fr x w).2))), none, some (.inr (.inl ((Int.gcd (σ 103 69) ((jx_fr x w).2) : Int)))), none, some (.inr (.inl (((σ 103 68) * ((jx_fr x w).2 / (Int.gcd (σ 103 69) ((jx_fr x w).2) : Int))) + (((jx_fr x w).1) * (σ 103 69 / (Int.gcd (σ 103 69) ((jx_fr x w).2) : Int)))))), none, some (.inr (.inl ((σ 103 69 / (Int.gcd (σ 103 69) ((jx_fr x w).2) : Int)) * ((jx_fr x w).2)))), none]) (st' := [.inl 1, .inr (.inl ((σ 103 69 / (Int.gcd (σ 103 69) ((jx_fr x w).2) : Int)) * ((jx_fr x w).2))), .inr (.inl (((σ 103 68) * ((jx_fr x w).2 / (Int.gcd (σ 103 69) ((jx_fr x w).2) : Int))) + (((jx_fr x w).1) * (σ 103 69 / (Int.gcd (σ 103 69) ((jx_fr x w).2) : Int))))), .inr (.inr 103)]) rfl ?_
  refine jw_W_call (as := [.inr (.inl (((σ 103 68) * ((jx_fr x w).2 / (Int.gcd (σ 103 69) ((jx_fr x w).2) : Int))) + (((jx_fr x w).1) * (σ 103 69 / (Int.gcd (σ 103 69) ((jx_fr x w).2) : Int))))), .inr (.inl ((σ 103 69 / (Int.gcd (σ 103 69) ((jx_fr x w).2) : Int)) * ((jx_fr x w).2))), .inl 1]) (rest := [.inr (.inr 103)]) rfl rfl rfl rfl (Nat.le_of_ble_eq_true rfl) (.inl rfl) (jm_ofFr hS2 hT0 (by omega) (by unfold jw_rg; omega)) (by omega) ?_ rfl
  rintro r1 σz ⟨rfl, hs⟩
  rw [hs]
  rw [hofS.2]
  show jw_W (js_S n) _ md_310 47 [some (.inr (.inr 103)), some (.inr (.inl x)), none, some (.inr (.inl w)), none, some (.inr (.inl ((jx_fr x w).1))), none, some (.inr (.inl ((jx_fr x w).2))), none, some (.inr (.inl ((Int.gcd (σ 103 69) ((jx_fr x w).2) : Int)))), none, some (.inr (.inl (((σ 103 68) * ((jx_fr x w).2 / (Int.gcd (σ 103 69) ((jx_fr x w).2) : Int))) + (((jx_fr x w).1) * (σ 103 69 / (Int.gcd (σ 103 69) ((jx_fr x w).2) : Int)))))), none, some (.inr (.inl ((σ 103 69 / (Int.gcd (σ 103 69) ((jx_fr x w).2) : Int)) * ((jx_fr x w).2)))), none] [.inr (.inl ((jx_fr (σ 103 68 * ((jx_fr x w).2 / (Int.gcd (σ 103 69) ((jx_fr x w).2) : Int)) + (jx_fr x w).1 * (σ 103 69 / (Int.gcd (σ 103 69) ((jx_fr x w).2) : Int))) (σ 103 69 / (Int.gcd (σ 103 69) ((jx_fr x w).2) : Int) * (jx_fr x w).2)).2)), .inr (.inr 103)] ((jw_up σ 103 68 ((jx_fr (σ 103 68 * ((jx_fr x w).2 / (Int.gcd (σ 103 69) ((jx_fr x w).2) : Int)) + (jx_fr x w).1 * (σ 103 69 / (Int.gcd (σ 103 69) ((jx_fr x w).2) : Int))) (σ 103 69 / (Int.gcd (σ 103 69) ((jx_fr x w).2) : Int) * (jx_fr x w).2)).1))) _
  refine jw_W_pf (a := (jx_fr (σ 103 68 * ((jx_fr x w).2 / (Int.gcd (σ 103 69) ((jx_fr x w).2) : Int)) + (jx_fr x w).1 * (σ 103 69 / (Int.gcd (σ 103 69) ((jx_fr x w).2) : Int))) (σ 103 69 / (Int.gcd (σ 103 69) ((jx_fr x w).2) : Int) * (jx_fr x w).2)).2) rfl (by omega) rfl rfl rfl rfl rfl ?_
  refine jw_W_re rfl ?_
  refine ⟨rfl, jk_68_up (jk_68_up ⟨fun _ _ => rfl, fun _ _ => rfl⟩ (by omega)) (by omega), ?_⟩
  show ((jx_fr (σ 103 68 * ((jx_fr x w).2 / (Int.gcd (σ 103 69) ((jx_fr x w).2) : Int)) + (jx_fr x w).1 * (σ 103 69 / (Int.gcd (σ 103 69) ((jx_fr x w).2) : Int))) (σ 103 69 / (Int.gcd (σ 103 69) ((jx_fr x w).2) : Int) * (jx_fr x w).2)).1, (jx_fr (σ 103 68 * ((jx_fr x w).2 / (Int.gcd (σ 103 69) ((jx_fr x w).2) : Int)) + (jx_fr x w).1 * (σ 103 69 / (Int.gcd (σ 103 69) ((jx_fr x w).2) : Int))) (σ 103 69 / (Int.gcd (σ 103 69) ((jx_fr x w).2) : Int) * (jx_fr x w).2)).2) = _
  exact hfin

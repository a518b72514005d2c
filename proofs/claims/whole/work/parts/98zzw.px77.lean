/-! ===== middle: the sums, pure ===== -/
theorem jk_lcm {b w K : Int} (hb : 0 < b) (hw : 0 < w) (hK : 0 < K) (h1 : b ∣ K) (h2 : w ∣ K) : b / (Int.gcd b w : Int) * w ≤ K := by
  obtain ⟨n, rfl⟩ := Int.eq_ofNat_of_zero_le (show 0 ≤ b by omega)
  obtain ⟨m, rfl⟩ := Int.eq_ofNat_of_zero_le (show 0 ≤ w by omega)
  obtain ⟨k, rfl⟩ := Int.eq_ofNat_of_zero_le (show 0 ≤ K by omega)
  have d1 : n ∣ k := Int.natCast_dvd_natCast.mp h1
  have d2 : m ∣ k := Int.natCast_dvd_natCast.mp h2
  have hl := Nat.le_of_dvd (show 0 < k by omega) (Nat.lcm_dvd d1 d2)
  have e := Nat.gcd_mul_lcm n m
  have g0 : 0 < Nat.gcd n m := Nat.gcd_pos_of_pos_left _ (by omega)
  obtain ⟨x, ex⟩ := Nat.gcd_dvd_left n m
  have hgg : Int.gcd (n : Int) (m : Int) = Nat.gcd n m := rfl
  rw [hgg]
  obtain ⟨G, hG⟩ : ∃ G, G = Nat.gcd n m := ⟨_, rfl⟩
  rw [← hG] at ex e g0 ⊢
  have ed : (n : Int) / (G : Int) = (x : Int) := by
    rw [ex]
    show (((G * x : Nat) : Int)) / (G : Int) = (x : Int)
    rw [Int.natCast_mul]
    exact Int.mul_ediv_cancel_left _ (by omega)
  rw [ed]
  have e2 : G * (x * m) = G * Nat.lcm n m := by rw [e, ← Nat.mul_assoc, ← ex]
  have e3 := Nat.eq_of_mul_eq_mul_left g0 e2
  have e4 : x * m ≤ k := by rw [e3]; exact hl
  have e5 : ((x * m : Nat) : Int) ≤ (k : Int) := by omega
  rw [Int.natCast_mul] at e5
  exact e5
theorem jk_ad {N K x w : Int} (hK : 0 < K ∧ K ≤ 8500000000000000) (hN : 0 ≤ N ∧ N ≤ 180 * K) (hw : 0 < w) (hx : 0 ≤ x ∧ x ≤ 9 * w) (hd : w ∣ K) : (jm_bg (jx_fr N K).1 ∧ (0 < (jx_fr N K).2 ∧ (jx_fr N K).2 ≤ 8500000000000000)) ∧ (jm_bg ((jx_fr N K).1 * (w / (Int.gcd (jx_fr N K).2 w : Int)) + x * ((jx_fr N K).2 / (Int.gcd (jx_fr N K).2 w : Int))) ∧ (0 < (jx_fr N K).2 / (Int.gcd (jx_fr N K).2 w : Int) * w ∧ (jx_fr N K).2 / (Int.gcd (jx_fr N K).2 w : Int) * w ≤ 8500000000000000)) ∧ jx_ad (jx_fr N K) x w = jx_fr (N + x * (K / w)) K := by
  have b0 := jx_fr_pos (u := N) (l := K) (by omega)
  obtain ⟨g, g0, e1, e2⟩ := jx_fr_gl (u := N) hK.1
  have L := jk_lcm b0 hw hK.1 ⟨g, e2⟩ hd
  have had : jx_ad (jx_fr N K) x w = jx_fr (N + x * (K / w)) K := by
    rw [jx_ad_fr hK.1 hw]
    obtain ⟨k, hk⟩ := hd
    have hk2 : K / w = k := by
      rw [hk]
      exact Int.mul_ediv_cancel_left _ (by omega)
    rw [hk2]
    refine jx_fr_eq (Int.mul_pos hK.1 hw) hK.1 ?_
    rw [hk]
    grind
  refine ⟨?_, ?_, had⟩ <;> clear had <;> generalize (jx_fr N K).1 = a at * <;> generalize (jx_fr N K).2 = b at *
  · have h1 : 0 ≤ a := Int.le_of_mul_le_mul_right (a := g) (by rw [Int.zero_mul]; omega) g0
    have h2 : a ≤ 180 * b := Int.le_of_mul_le_mul_right (a := g) (by rw [Int.mul_assoc]; omega) g0
    have h3 := Int.mul_le_mul_of_nonneg_left (show 1 ≤ g by omega) (Int.le_of_lt b0)
    unfold jm_bg
    omega
  · have h1 : 0 ≤ a := Int.le_of_mul_le_mul_right (a := g) (by rw [Int.zero_mul]; omega) g0
    have h2 : a ≤ 180 * b := Int.le_of_mul_le_mul_right (a := g) (by rw [Int.mul_assoc]; omega) g0
    have G0 := Int.gcd_pos_of_ne_zero_right b (b := w) (by omega)
    have G1 : 0 < (Int.gcd b w : Int) := by omega
    obtain ⟨s, es⟩ := Int.gcd_dvd_left (a := b) (b := w)
    obtain ⟨t, et⟩ := Int.gcd_dvd_right (a := b) (b := w)
    generalize (Int.gcd b w : Int) = G at *
    have d1 : b / G = s := by rw [es, Int.mul_ediv_cancel_left _ (by omega)]
    have d2 : w / G = t := by rw [et, Int.mul_ediv_cancel_left _ (by omega)]
    rw [d1] at L
    rw [d1, d2]
    have s0 : 0 < s := Int.lt_of_mul_lt_mul_left (a := G) (by rw [Int.mul_zero]; omega) (by omega)
    have t0 : 0 < t := Int.lt_of_mul_lt_mul_left (a := G) (by rw [Int.mul_zero]; omega) (by omega)
    have p1 := Int.mul_pos s0 hw
    have p2 := Int.mul_le_mul_of_nonneg_right h2 (Int.le_of_lt t0)
    have p3 : 180 * b * t = 180 * (s * w) := by
      rw [es, et]
      grind
    have p4 := Int.mul_nonneg h1 (Int.le_of_lt t0)
    have p5 := Int.mul_le_mul_of_nonneg_right hx.2 (Int.le_of_lt s0)
    have p6 : 9 * w * s = 9 * (s * w) := by grind
    have p7 := Int.mul_nonneg hx.1 (Int.le_of_lt s0)
    refine ⟨?_, p1, by omega⟩
    unfold jm_bg
    omega
theorem jk_cop {u l : Int} (hl : 0 < l) : Int.gcd (jx_fr u l).1 (jx_fr u l).2 = 1 := by
  have G0 := Int.gcd_pos_of_ne_zero_right u (b := l) (by omega)
  obtain ⟨x, ex⟩ := Int.gcd_dvd_left (a := u) (b := l)
  obtain ⟨y, ey⟩ := Int.gcd_dvd_right (a := u) (b := l)
  have e : jx_fr u l = (x, y) := by
    unfold jx_fr
    obtain ⟨G, hG⟩ : ∃ G, G = Int.gcd u l := ⟨_, rfl⟩
    rw [← hG] at ex ey G0 ⊢
    have d1 : u / (G : Int) = x := by rw [ex, Int.mul_ediv_cancel_left _ (by omega)]
    have d2 : l / (G : Int) = y := by rw [ey, Int.mul_ediv_cancel_left _ (by omega)]
    rw [if_neg (by omega), d1, d2]
  rw [e]
  show Int.gcd x y = 1
  obtain ⟨G, hG⟩ : ∃ G, G = Int.gcd u l := ⟨_, rfl⟩
  rw [← hG] at ex ey G0
  have h := Int.gcd_mul_right (m := x) (n := (G : Int)) (k := y)
  rw [Int.mul_comm x, Int.mul_comm y, ← ex, ← ey, ← hG] at h
  have h2 : G = Int.gcd x y * G := h
  exact Nat.eq_of_mul_eq_mul_right G0 (by omega)
theorem jk_ofm {a b m : Int} (hc : Int.gcd a b = 1) : jm_of a (b * m) 0 = a / (Int.gcd a m : Int) ∧ jm_of a (b * m) 1 = b * (m / (Int.gcd a m : Int)) := by
  have e : Int.gcd a (b * m) = Int.gcd a m := by
    show Nat.gcd a.natAbs (b * m).natAbs = Nat.gcd a.natAbs m.natAbs
    rw [Int.natAbs_mul]
    have h : Nat.Coprime a.natAbs b.natAbs := hc
    exact Nat.Coprime.gcd_mul_left_cancel_right _ h.symm
  unfold jm_of
  rw [e, if_pos rfl, if_neg (by decide)]
  exact ⟨rfl, Int.mul_ediv_assoc b (Int.gcd_dvd_right a m)⟩
theorem jk_of0 {u l : Int} (h : 0 < l) : jm_of u l 0 = (jx_fr u l).1 ∧ jm_of u l 1 = (jx_fr u l).2 := by
  rw [← jx_fr_j h (.inl rfl), ← jx_fr_j h (.inr rfl)]
  exact ⟨rfl, rfl⟩
/-- taken into the middle -/
def jk_mt (σ : jw_H) (e i : Int) : Prop := e = 0 ∨ jm_good σ i
noncomputable def jk_mN (σ : jw_H) (e q : Int) : Nat → Int
  | 0 => 0
  | i + 1 => jk_mN σ e q i + jx_b (jk_mt σ e (i : Int)) * (jm_cc σ (i : Int) q * (jn_K3 σ / σ 135 (i : Int)))
theorem jk_mN_yes {σ : jw_H} {e q i : Int} (i0 : 0 ≤ i) (h : jk_mt σ e i) : jk_mN σ e q (i + 1).toNat = jk_mN σ e q i.toNat + jm_cc σ i q * (jn_K3 σ / σ 135 i) := by
  rw [show (i + 1).toNat = i.toNat + 1 by omega]
  show jk_mN σ e q i.toNat + jx_b (jk_mt σ e (i.toNat : Int)) * (jm_cc σ (i.toNat : Int) q * (jn_K3 σ / σ 135 (i.toNat : Int))) = _
  rw [Int.toNat_of_nonneg i0, jx_b_1 h, Int.one_mul]
theorem jk_mN_no {σ : jw_H} {e q i : Int} (i0 : 0 ≤ i) (h : ¬ jk_mt σ e i) : jk_mN σ e q (i + 1).toNat = jk_mN σ e q i.toNat := by
  rw [show (i + 1).toNat = i.toNat + 1 by omega]
  show jk_mN σ e q i.toNat + jx_b (jk_mt σ e (i.toNat : Int)) * (jm_cc σ (i.toNat : Int) q * (jn_K3 σ / σ 135 (i.toNat : Int))) = _
  rw [Int.toNat_of_nonneg i0, jx_b_0 h, Int.zero_mul, Int.add_zero]
theorem jk_K3_me {σ0 σ : jw_H} (h : jx_me σ0 σ) : jn_K3 σ = jn_K3 σ0 := by
  unfold jn_K3 jn_nz jm_kr jm_sg
  simp only [h 103 (by omega), h 105 (by omega)]
theorem jk_mN_me {σ0 σ : jw_H} (h : jx_me σ0 σ) (e q : Int) : ∀ i, jk_mN σ e q i = jk_mN σ0 e q i
  | 0 => rfl
  | i + 1 => by
    show jk_mN σ e q i + jx_b (jk_mt σ e (i : Int)) * (jm_cc σ (i : Int) q * (jn_K3 σ / σ 135 (i : Int))) = jk_mN σ0 e q i + jx_b (jk_mt σ0 e (i : Int)) * (jm_cc σ0 (i : Int) q * (jn_K3 σ0 / σ0 135 (i : Int)))
    rw [jk_mN_me h e q i, jk_K3_me h]
    unfold jk_mt jm_good jm_cc
    rw [h 103 (by omega), h 132 (by omega), h 133 (by omega), h 134 (by omega), h 135 (by omega)]
theorem jk_c {σ : jw_H} {C : List (ge_R × Int)} (hKN : jm_KN σ C) {i : Int} (q : Int) (i0 : 0 ≤ i) (i1 : i < σ 103 56) : (0 ≤ jm_cc σ i q ∧ jm_cc σ i q ≤ 9 * σ 135 i) ∧ (0 < σ 135 i ∧ σ 135 i ≤ 162) ∧ σ 135 i ∣ jn_K3 σ := by
  obtain ⟨-, -, hV, hg⟩ := jm_tg hKN i0 i1
  have hcb := (jm_kw_cbd hKN.1).2 σ (jm_fk_rf σ)
  have hb := jm_F_bd hKN.1.1 hV.1
  have hw := jn_w_K3 hKN.1.1 hV hg
  have h4 : (jm_ct σ i).2.2.2 = σ 135 i := rfl
  have h5 := (hcb.2 i i0 i1).2
  have h6 := hV.1.1
  rw [h4] at *
  have x1 : (jm_ct σ i).1 = σ 132 i := rfl
  have x2 : (jm_ct σ i).2.1 = σ 133 i := rfl
  have x3 : (jm_ct σ i).2.2.1 = σ 134 i := rfl
  rw [x1, x2, x3] at hb
  refine ⟨?_, ⟨h6, h5⟩, hw⟩
  unfold jm_cc
  split
  · exact hb.1
  · split
    · exact hb.2.1
    · exact hb.2.2
theorem jk_mN_bd {σ : jw_H} {C : List (ge_R × Int)} (hKN : jm_KN σ C) (e q : Int) : ∀ i : Nat, (i : Int) ≤ σ 103 56 → 0 ≤ jk_mN σ e q i ∧ jk_mN σ e q i ≤ 9 * ((i : Int) * jn_K3 σ)
  | 0, _ => by
    show (0 : Int) ≤ 0 ∧ (0 : Int) ≤ 9 * (((0 : Nat) : Int) * jn_K3 σ)
    rw [Int.natCast_zero, Int.zero_mul]
    omega
  | i + 1, hi => by
    obtain ⟨h1, h2⟩ := jk_mN_bd hKN e q i (by omega)
    obtain ⟨c1, c2, k, hk⟩ := jk_c hKN q (i := (i : Int)) (by omega) (by omega)
    have hK := (jn_K3_bd hKN.1.1).1
    have hk2 : jn_K3 σ / σ 135 (i : Int) = k := by
      rw [hk]
      exact Int.mul_ediv_cancel_left _ (by omega)
    have k0 : 0 < k := Int.lt_of_mul_lt_mul_left (a := σ 135 (i : Int)) (by rw [Int.mul_zero]; omega) (by omega)
    have p1 := Int.mul_nonneg c1.1 (Int.le_of_lt k0)
    have p2 := Int.mul_le_mul_of_nonneg_right c1.2 (Int.le_of_lt k0)
    rw [Int.mul_assoc, ← hk] at p2
    have p3 : ((i + 1 : Nat) : Int) * jn_K3 σ = (i : Int) * jn_K3 σ + jn_K3 σ := by
      rw [Int.natCast_add, Int.add_mul, Int.natCast_one, Int.one_mul]
    show 0 ≤ jk_mN σ e q i + jx_b (jk_mt σ e (i : Int)) * (jm_cc σ (i : Int) q * (jn_K3 σ / σ 135 (i : Int))) ∧ jk_mN σ e q i + jx_b (jk_mt σ e (i : Int)) * (jm_cc σ (i : Int) q * (jn_K3 σ / σ 135 (i : Int))) ≤ _
    rw [hk2, p3]
    rcases jx_b_01 (jk_mt σ e (i : Int)) with hb | hb
    · rw [hb, Int.zero_mul]
      omega
    · rw [hb, Int.one_mul]
      omega
theorem jk_mN_le {σ : jw_H} {C : List (ge_R × Int)} (hKN : jm_KN σ C) (e q : Int) {i : Int} (i0 : 0 ≤ i) (i1 : i ≤ σ 103 56) : 0 ≤ jk_mN σ e q i.toNat ∧ jk_mN σ e q i.toNat ≤ 180 * jn_K3 σ := by
  have hcb := (jm_kw_cbd hKN.1).2 σ (jm_fk_rf σ)
  obtain ⟨h1, h2⟩ := jk_mN_bd hKN e q i.toNat (by omega)
  have hcn := hcb.1
  have h3 := Int.mul_le_mul_of_nonneg_right (show ((i.toNat : Nat) : Int) ≤ 20 by omega) (Int.le_of_lt (jn_K3_bd hKN.1.1).1)
  omega
theorem jk_mt_pos {σ : jw_H} {C : List (ge_R × Int)} (hKN : jm_KN σ C) (hn : 0 < σ 103 56) (e : Int) : 0 < jx_cn (jk_mt σ e) (σ 103 56).toNat := by
  obtain ⟨b, b0, b1, hb⟩ := jm_some hKN hn
  have h1 := jx_cn_yes (P := jk_mt σ e) b0 rfl (.inr hb)
  have h2 := jx_cn_mono (P := jk_mt σ e) (a := (b + 1).toNat) (b := (σ 103 56).toNat) (by omega)
  have h3 := (jx_cn_le (jk_mt σ e) b.toNat).1
  omega
noncomputable def jk_mfr (σ : jw_H) (e q : Int) : Int × Int := jx_fr (jk_mN σ e q (σ 103 56).toNat) (jn_K3 σ)
/-- the answers of middle -/
def jk_mda (σ : jw_H) (e j v : Int) : Prop := (v = -1 ∧ ¬ (0 ≤ j ∧ j < 2 * σ 103 3)) ∨ ((0 ≤ j ∧ j < 2 * σ 103 3) ∧ ((v = -2 ∧ σ 103 56 = 0) ∨ (σ 103 56 ≠ 0 ∧ v = jm_of (jk_mfr σ e (j / 2)).1 ((jk_mfr σ e (j / 2)).2 * jx_cn (jk_mt σ e) (σ 103 56).toNat) (j % 2))))
theorem jk_mda_uq {σ : jw_H} {e j u v : Int} (h1 : jk_mda σ e j u) (h2 : jk_mda σ e j v) : u = v := by
  rcases h1 with ⟨e1, a1⟩ | ⟨a1, ⟨e1, b1⟩ | ⟨b1, e1⟩⟩ <;> rcases h2 with ⟨e2, a2⟩ | ⟨a2, ⟨e2, b2⟩ | ⟨b2, e2⟩⟩ <;> first | exact e1.trans e2.symm | exact absurd a1 a2 | exact absurd a2 a1 | exact absurd b1 b2 | exact absurd b2 b1
theorem jk_mda_me {σ0 σ : jw_H} (h : jx_me σ0 σ) (e j v : Int) : jk_mda σ e j v ↔ jk_mda σ0 e j v := by
  have e1 : jk_mt σ e = jk_mt σ0 e := by
    funext i
    unfold jk_mt jm_good
    rw [h 103 (by omega)]
  unfold jk_mda jk_mfr
  rw [e1, jk_K3_me h, jk_mN_me h, h 103 (by omega)]

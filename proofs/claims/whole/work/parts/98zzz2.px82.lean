/-! ===== two quantities: what the lower numbers go into; corners on a row ===== -/
def jk_mi (r q : ge_R) : Int := r.1 * q.2.1 - r.2.1 * q.1
theorem jk_det_mi {r q t : ge_R} (hr : r.2.2.1 = 0) (hq : q.2.2.1 = 0) : ge_det r q t = t.2.2.1 * jk_mi r q := by
  unfold ge_det ge_n ge_x jk_mi
  rw [hr, hq]
  grind
/-- rows along two quantities only -/
def jk_Z (r : ge_R) : Prop := r.1 = 0 ∧ r.2.1 = 0 ∧ (r.2.2.1 = 1 ∨ r.2.2.1 = -1)
theorem jk_mi_Z {r q : ge_R} (h : jk_Z r) : jk_mi r q = 0 ∧ jk_mi q r = 0 := by
  obtain ⟨h1, h2, -⟩ := h
  unfold jk_mi
  rw [h1, h2]
  constructor <;> omega
theorem jk_det_ZZ {r q t : ge_R} (h : jk_Z r) (h2 : jk_Z q) : ge_det r q t = 0 := by
  obtain ⟨a1, a2, -⟩ := h
  obtain ⟨b1, b2, -⟩ := h2
  unfold ge_det ge_n ge_x
  rw [a1, a2, b1, b2]
  grind
theorem jk_det_t {r q t : ge_R} (hr : r.2.2.1 = 0) (hq : q.2.2.1 = 0) (ht : jk_Z t) {w : Int} (hw : w ∣ ge_det r q t) (hd : ge_det r q t ≠ 0) : w ∣ jk_mi r q ∧ jk_mi r q ≠ 0 := by
  rw [jk_det_mi hr hq] at hw hd
  rcases ht.2.2 with h | h
  · rw [h, Int.one_mul] at hw hd
    exact ⟨hw, hd⟩
  · rw [h] at hw hd
    have e : -1 * jk_mi r q = -jk_mi r q := by omega
    rw [e] at hw hd
    exact ⟨Int.dvd_neg.mp hw, by omega⟩
/-- three rows that meet: two of them along the quantities have what the lower number goes into -/
theorem jk_two {r q t : ge_R} (hr : r.2.2.1 = 0 ∨ jk_Z r) (hq : q.2.2.1 = 0 ∨ jk_Z q) (ht : t.2.2.1 = 0 ∨ jk_Z t) {w : Int} (hw : w ∣ ge_det r q t) (hd : ge_det r q t ≠ 0) : ∃ a b, (a = r ∨ a = q ∨ a = t) ∧ (b = r ∨ b = q ∨ b = t) ∧ a.2.2.1 = 0 ∧ b.2.2.1 = 0 ∧ w ∣ jk_mi a b ∧ jk_mi a b ≠ 0 := by
  rcases hr with hr | hr <;> rcases hq with hq | hq <;> rcases ht with ht | ht
  · exact absurd (by rw [jk_det_mi hr hq, ht, Int.zero_mul]) hd
  · have h := jk_det_t hr hq ht hw hd
    exact ⟨r, q, .inl rfl, .inr (.inl rfl), hr, hq, h⟩
  · rw [← jn_dP2 r q t] at hw hd
    have h := jk_det_t ht hr hq hw hd
    exact ⟨t, r, .inr (.inr rfl), .inl rfl, ht, hr, h⟩
  · exact absurd (by rw [← jn_dP1]; exact jk_det_ZZ hq ht) hd
  · rw [← jn_dP1 r q t] at hw hd
    have h := jk_det_t hq ht hr hw hd
    exact ⟨q, t, .inr (.inl rfl), .inr (.inr rfl), hq, ht, h⟩
  · exact absurd (by rw [← jn_dP2]; exact jk_det_ZZ ht hr) hd
  · exact absurd (jk_det_ZZ hr hq) hd
  · exact absurd (jk_det_ZZ hr hq) hd
theorem jk_mi_sw (a b : ge_R) : jk_mi b a = -jk_mi a b := by
  unfold jk_mi
  grind
theorem jk_mi_s (a : ge_R) : jk_mi a a = 0 := by
  unfold jk_mi
  grind
theorem jk_mi_sm {a b : ge_R} (ha : ge_sm a) (hb : ge_sm b) : -18 ≤ jk_mi a b ∧ jk_mi a b ≤ 18 := by
  unfold ge_sm at ha hb
  unfold jk_mi
  have h1 := jx_mm (a := a.1) (x := b.2.1) (A := 3) (X := 3) (by omega) (by omega)
  have h2 := jx_mm (a := a.2.1) (x := b.1) (A := 3) (X := 3) (by omega) (by omega)
  omega
theorem jk_mi_un {a b : ge_R} (ha : jn_un a) (hb : ge_sm b) : -3 ≤ jk_mi a b ∧ jk_mi a b ≤ 3 := by
  unfold ge_sm at hb
  unfold jk_mi
  rcases ha with ⟨h1 | h1, h2, h3⟩ | ⟨h1, h2 | h2, h3⟩ | ⟨h1, h2, h3 | h3⟩ <;> rw [h1, h2] <;> omega
/-- seven numbers, two of which never go into one up to 18 -/
def jk_P : List Int := [8, 9, 5, 7, 11, 13, 17]
theorem jk_P_pair {p p' m : Int} (hp : p ∈ jk_P) (hp' : p' ∈ jk_P) (h1 : p ∣ m) (h2 : p' ∣ m) (m0 : m ≠ 0) (m1 : -18 ≤ m ∧ m ≤ 18) : p = p' := by
  unfold jk_P at hp hp'
  simp only [List.mem_cons, List.not_mem_nil, or_false] at hp hp'
  rcases hp with rfl | rfl | rfl | rfl | rfl | rfl | rfl <;> rcases hp' with rfl | rfl | rfl | rfl | rfl | rfl | rfl <;> omega
def jk_KP (p : Int) : Int := if p = 8 then 3063060 else if p = 9 then 4084080 else if p = 5 then 2450448 else if p = 7 then 1750320 else if p = 11 then 1113840 else if p = 13 then 942480 else 720720
theorem jk_KP_bd (p : Int) : 0 < jk_KP p ∧ jk_KP p ≤ 4084080 := by
  unfold jk_KP
  repeat' split
  all_goals omega
theorem jk_KP_dvd {p w : Int} (hp : p ∈ jk_P) (w0 : 0 < w) (w1 : w ≤ 18) (hn : ¬ p ∣ w) : w ∣ jk_KP p := by
  unfold jk_P at hp
  simp only [List.mem_cons, List.not_mem_nil, or_false] at hp
  rcases (show w = 1 ∨ w = 2 ∨ w = 3 ∨ w = 4 ∨ w = 5 ∨ w = 6 ∨ w = 7 ∨ w = 8 ∨ w = 9 ∨ w = 10 ∨ w = 11 ∨ w = 12 ∨ w = 13 ∨ w = 14 ∨ w = 15 ∨ w = 16 ∨ w = 17 ∨ w = 18 by omega) with rfl | rfl | rfl | rfl | rfl | rfl | rfl | rfl | rfl | rfl | rfl | rfl | rfl | rfl | rfl | rfl | rfl | rfl <;> rcases hp with rfl | rfl | rfl | rfl | rfl | rfl | rfl <;> first | decide | exact absurd (by decide) hn
/-- six numbers up to 18: one of the seven goes into none -/
theorem jk_six (M : List Int) (hM : M.length ≤ 6) (hm : ∀ m ∈ M, -18 ≤ m ∧ m ≤ 18) : ∃ p ∈ jk_P, ∀ m ∈ M, m ≠ 0 → ¬ p ∣ m := by
  refine Classical.byContradiction (fun hc => ?_)
  have h := ge_pig (α := Int) (fun a b => a = b) (M.map (fun m p => m ≠ 0 ∧ p ∣ m)) jk_P (by unfold jk_P; decide) (fun p hp => by
    refine Classical.byContradiction (fun hn => hc ⟨p, hp, fun m hm0 m0 hd => hn ⟨_, List.mem_map.mpr ⟨m, hm0, rfl⟩, m0, hd⟩⟩)) (fun q hq a ha b hb qa qb => by
    obtain ⟨m, hm0, rfl⟩ := List.mem_map.mp hq
    exact jk_P_pair ha hb qa.2 qb.2 qa.1 (hm m hm0))
  rw [List.length_map] at h
  have h7 : jk_P.length = 7 := rfl
  omega
def jk_k (σ : jw_H) (a b : Int) : Int := if b < σ 103 5 then jk_mi (jm_kr σ a 0) (jm_kr σ b 0) else 0
def jk_M (σ : jw_H) : List Int := [jk_k σ 0 1, jk_k σ 0 2, jk_k σ 0 3, jk_k σ 1 2, jk_k σ 1 3, jk_k σ 2 3]
theorem jk_k_sm {σ : jw_H} (hP : jm_Pb σ) {a b : Int} (a0 : 0 ≤ a) (ab : a < b) : -18 ≤ jk_k σ a b ∧ jk_k σ a b ≤ 18 := by
  unfold jk_k
  split
  · exact jk_mi_sm (jm_kr_ok hP a0 (show a < σ 103 5 by omega) (by omega) (by omega)).1 (jm_kr_ok hP (show 0 ≤ b by omega) (by assumption) (by omega) (by omega)).1
  · omega
theorem jk_M_sm {σ : jw_H} (hP : jm_Pb σ) : ∀ m ∈ jk_M σ, -18 ≤ m ∧ m ≤ 18 := by
  intro m hm
  unfold jk_M at hm
  simp only [List.mem_cons, List.not_mem_nil, or_false] at hm
  rcases hm with rfl | rfl | rfl | rfl | rfl | rfl <;> exact jk_k_sm hP (by omega) (by omega)
theorem jk_in {σ : jw_H} (hP : jm_Pb σ) {a b w : Int} (a0 : 0 ≤ a ∧ a < σ 103 5) (b0 : 0 ≤ b ∧ b < σ 103 5) (ab : a < b) (hw : w ∣ jk_mi (jm_kr σ a 0) (jm_kr σ b 0)) (hn : jk_mi (jm_kr σ a 0) (jm_kr σ b 0) ≠ 0) : ∃ m ∈ jk_M σ, m ≠ 0 ∧ w ∣ m := by
  have hk := hP.2.2.1
  have e : jk_k σ a b = jk_mi (jm_kr σ a 0) (jm_kr σ b 0) := by
    unfold jk_k
    exact if_pos b0.2
  refine ⟨jk_k σ a b, ?_, by rw [e]; exact hn, by rw [e]; exact hw⟩
  unfold jk_M
  simp only [List.mem_cons, List.not_mem_nil, or_false]
  rcases (show (a = 0 ∧ b = 1) ∨ (a = 0 ∧ b = 2) ∨ (a = 0 ∧ b = 3) ∨ (a = 1 ∧ b = 2) ∨ (a = 1 ∧ b = 3) ∨ (a = 2 ∧ b = 3) by omega) with ⟨rfl, rfl⟩ | ⟨rfl, rfl⟩ | ⟨rfl, rfl⟩ | ⟨rfl, rfl⟩ | ⟨rfl, rfl⟩ | ⟨rfl, rfl⟩
  · exact .inl rfl
  · exact .inr (.inl rfl)
  · exact .inr (.inr (.inl rfl))
  · exact .inr (.inr (.inr (.inl rfl)))
  · exact .inr (.inr (.inr (.inr (.inl rfl))))
  · exact .inr (.inr (.inr (.inr (.inr rfl))))
theorem jk_row2 {σ : jw_H} (hP : jm_Pb σ) (h2 : σ 103 3 = 2) {r : ge_R} (hr : r ∈ jm_R σ) : r.2.2.1 = 0 ∨ jk_Z r := by
  rcases jn_row_kind hP hr with ⟨k, k0, rfl⟩ | h
  · left
    have h3 := ((hP.2.2.2.1 k k0.1 k0.2).1 2 (by omega) (by omega)).2.2 (by omega)
    show jm_sg σ k * σ 105 (5 * k + 2) = 0
    rw [h3, Int.mul_zero]
  · rcases h with ⟨h1, h2, h3⟩ | ⟨h1, h2, h3⟩ | ⟨h1, h2, h3⟩
    · exact .inl h3
    · exact .inl h3
    · exact .inr ⟨h1, h2, h3⟩
/-- one number up to 4084080 that every corner's lower number goes into, none of them above 18 -/
theorem jk_K2 {σ : jw_H} (hP : jm_Pb σ) (h2 : σ 103 3 = 2) : ∃ K, (0 < K ∧ K ≤ 4084080) ∧ ∀ v, ge_V (jm_R σ) v → ge_g v = 1 → v.2.2.2 ≤ 18 ∧ v.2.2.2 ∣ K := by
  obtain ⟨p, hp, hpm⟩ := jk_six (jk_M σ) (by unfold jk_M; exact Nat.le_refl _) (jk_M_sm hP)
  refine ⟨jk_KP p, jk_KP_bd p, fun v hv hg => ?_⟩
  have w0 := hv.1.1
  obtain ⟨-, r, hr, q, hq, t, ht, sr, sq, st, hd⟩ := hv
  have hw := ge_low hg sr sq st
  obtain ⟨a, b, ha, hb, za, zb, hwm, hm0⟩ := jk_two (jk_row2 hP h2 hr) (jk_row2 hP h2 hq) (jk_row2 hP h2 ht) hw hd
  have ha2 : a ∈ jm_R σ := by rcases ha with rfl | rfl | rfl <;> assumption
  have hb2 : b ∈ jm_R σ := by rcases hb with rfl | rfl | rfl <;> assumption
  have hsm : ∀ x, x ∈ jm_R σ → ge_sm x := fun x hx => by
    rcases jn_row_kind hP hx with ⟨k, k0, rfl⟩ | h
    · exact (jm_kr_ok hP k0.1 k0.2 (by omega) (by omega)).1
    · exact jn_un_sm h
  have hms := jk_mi_sm (hsm a ha2) (hsm b hb2)
  have hle : ∀ B : Int, -B ≤ jk_mi a b ∧ jk_mi a b ≤ B → v.2.2.2 ≤ B := fun B hB => by
    by_cases h0 : 0 < jk_mi a b
    · have := Int.le_of_dvd h0 hwm
      omega
    · have := Int.le_of_dvd (show 0 < -jk_mi a b by omega) (Int.dvd_neg.mpr hwm)
      omega
  have h18 := hle 18 hms
  have hp3 : v.2.2.2 ≤ 3 → ¬ p ∣ v.2.2.2 := fun h3 hh => by
    have := Int.le_of_dvd w0 hh
    unfold jk_P at hp
    simp only [List.mem_cons, List.not_mem_nil, or_false] at hp
    omega
  refine ⟨h18, jk_KP_dvd hp w0 h18 ?_⟩
  rcases jn_row_kind hP ha2 with ⟨i, i0, ea⟩ | hu
  · rcases jn_row_kind hP hb2 with ⟨j, j0, eb⟩ | hu
    · intro hh
      rw [ea, eb] at hwm hm0
      rcases (show i < j ∨ i = j ∨ j < i by omega) with h | h | h
      · obtain ⟨m, hm, hm1, hm2⟩ := jk_in hP i0 j0 h hwm hm0
        exact hpm m hm hm1 (Int.dvd_trans hh hm2)
      · rw [h, jk_mi_s] at hm0
        exact hm0 rfl
      · rw [jk_mi_sw] at hwm hm0
        obtain ⟨m, hm, hm1, hm2⟩ := jk_in hP j0 i0 h (Int.dvd_neg.mp hwm) (by omega)
        exact hpm m hm hm1 (Int.dvd_trans hh hm2)
    · refine hp3 (hle 3 ?_)
      rw [jk_mi_sw b a]
      have := jk_mi_un hu (hsm a ha2)
      omega
  · exact hp3 (hle 3 (jk_mi_un hu (hsm b hb2)))
/-- along a row: how far from one point to another -/
def jk_S (r v p : ge_R) : Int := r.1 * (ge_to v p).2.1 - r.2.1 * (ge_to v p).1
theorem jk_S_sw (r v p : ge_R) : jk_S r p v = -jk_S r v p := by
  unfold jk_S ge_to
  grind
theorem jk_S_T {r v p : ge_R} (hr : r.2.2.1 = 0) (sv : ge_s r v = 0) (sp : ge_s r p = 0) : (r.1 * r.1 + r.2.1 * r.2.1) * (ge_to v p).1 = -(r.2.1 * jk_S r v p) ∧ (r.1 * r.1 + r.2.1 * r.2.1) * (ge_to v p).2.1 = r.1 * jk_S r v p := by
  have h := ge_to_n r v p
  rw [sv, sp] at h
  unfold ge_n at h
  rw [hr] at h
  unfold jk_S
  generalize (ge_to v p).1 = x at *
  generalize (ge_to v p).2.1 = y at *
  have h2 : r.1 * x + r.2.1 * y = 0 := by
    rw [Int.zero_mul, Int.zero_mul, Int.zero_mul] at h
    omega
  generalize r.1 = a at *
  generalize r.2.1 = b at *
  constructor <;> grind
theorem jk_nn {a b : Int} (h : ¬ (a = 0 ∧ b = 0)) : 0 < a * a + b * b := by
  have sq : ∀ x : Int, 0 ≤ x * x := fun x => by
    by_cases hx : 0 ≤ x
    · exact Int.mul_nonneg hx hx
    · have := Int.mul_nonneg (show 0 ≤ -x by omega) (show 0 ≤ -x by omega)
      rw [Int.neg_mul_neg] at this
      exact this
  have h1 := sq a
  have h2 := sq b
  by_cases ha : a = 0
  · have hb : b ≠ 0 := fun hb => h ⟨ha, hb⟩
    have := Int.mul_ne_zero hb hb
    omega
  · have := Int.mul_ne_zero ha ha
    omega
theorem jk_mid {R : List ge_R} {r v p q : ge_R} (hr : r.2.2.1 = 0) (hn : ¬ (r.1 = 0 ∧ r.2.1 = 0)) (hv : ge_V R v) (hp : ge_F R p) (hq : ge_F R q) (zv : v.2.2.1 = 0) (zp : p.2.2.1 = 0) (zq : q.2.2.1 = 0) (sv : ge_s r v = 0) (sp : ge_s r p = 0) (sq : ge_s r q = 0) (h1 : jk_S r v p < 0) (h2 : 0 < jk_S r v q) : ge_e v p := by
  have n0 := jk_nn hn
  obtain ⟨p1, p2⟩ := jk_S_T hr sv sp
  obtain ⟨q1, q2⟩ := jk_S_T hr sv sq
  generalize r.1 * r.1 + r.2.1 * r.2.1 = N at *
  refine ge_amid hv hp hq (a := jk_S r v q) (b := -jk_S r v p) h2 (by omega) ?_ ?_ ?_
  · refine Int.eq_of_mul_eq_mul_left (a := N) (by omega) ?_
    rw [Int.mul_zero]
    have e : N * (jk_S r v q * (ge_to v p).1 + -jk_S r v p * (ge_to v q).1) = jk_S r v q * (N * (ge_to v p).1) - jk_S r v p * (N * (ge_to v q).1) := by grind
    rw [e, p1, q1]
    grind
  · refine Int.eq_of_mul_eq_mul_left (a := N) (by omega) ?_
    rw [Int.mul_zero]
    have e : N * (jk_S r v q * (ge_to v p).2.1 + -jk_S r v p * (ge_to v q).2.1) = jk_S r v q * (N * (ge_to v p).2.1) - jk_S r v p * (N * (ge_to v q).2.1) := by grind
    rw [e, p2, q2]
    grind
  · have e1 : (ge_to v p).2.2 = 0 := by
      unfold ge_to
      dsimp only
      rw [zv, zp, Int.zero_mul, Int.zero_mul]
      rfl
    have e2 : (ge_to v q).2.2 = 0 := by
      unfold ge_to
      dsimp only
      rw [zv, zq, Int.zero_mul, Int.zero_mul]
      rfl
    rw [e1, e2, Int.mul_zero, Int.mul_zero]
    rfl
theorem jk_S_0 {r v p : ge_R} (hr : r.2.2.1 = 0) (hn : ¬ (r.1 = 0 ∧ r.2.1 = 0)) (zv : v.2.2.1 = 0) (zp : p.2.2.1 = 0) (sv : ge_s r v = 0) (sp : ge_s r p = 0) (h : jk_S r v p = 0) : ge_e v p := by
  have n0 := jk_nn hn
  obtain ⟨p1, p2⟩ := jk_S_T hr sv sp
  rw [h, Int.mul_zero] at p1 p2
  generalize r.1 * r.1 + r.2.1 * r.2.1 = N at *
  have t1 : (ge_to v p).1 = 0 := by
    rcases Int.mul_eq_zero.mp (show N * (ge_to v p).1 = 0 by omega) with hh | hh
    · omega
    · exact hh
  have t2 : (ge_to v p).2.1 = 0 := by
    rcases Int.mul_eq_zero.mp p2 with hh | hh
    · omega
    · exact hh
  have e1 : (ge_to v p).2.2 = 0 := by
    unfold ge_to
    dsimp only
    rw [zv, zp, Int.zero_mul, Int.zero_mul]
    rfl
  rw [ge_to_z]
  unfold ge_nz
  exact fun hh => hh ⟨t1, t2, e1⟩
/-- no three corners on one row -/
theorem jk_three {R : List ge_R} {r a b c : ge_R} (hr : r.2.2.1 = 0) (hn : ¬ (r.1 = 0 ∧ r.2.1 = 0)) (ha : ge_V R a) (hb : ge_V R b) (hc : ge_V R c) (za : a.2.2.1 = 0) (zb : b.2.2.1 = 0) (zc : c.2.2.1 = 0) (sa : ge_s r a = 0) (sb : ge_s r b = 0) (sc : ge_s r c = 0) (nab : ¬ ge_e a b) (nac : ¬ ge_e a c) (nbc : ¬ ge_e b c) : False := by
  have sy : ∀ {x y : ge_R}, ge_e x y → ge_e y x := fun h => ge_e_sym h
  have m : ∀ v p q, ge_V R v → ge_V R p → ge_V R q → v.2.2.1 = 0 → p.2.2.1 = 0 → q.2.2.1 = 0 → ge_s r v = 0 → ge_s r p = 0 → ge_s r q = 0 → ¬ ge_e v p → jk_S r v p < 0 → 0 < jk_S r v q → False := fun v p q hv hp hq zv zp zq sv sp sq nvp h1 h2 => nvp (jk_mid hr hn hv hp.1 hq.1 zv zp zq sv sp sq h1 h2)
  have z1 : jk_S r a b ≠ 0 := fun h => nab (jk_S_0 hr hn za zb sa sb h)
  have z2 : jk_S r a c ≠ 0 := fun h => nac (jk_S_0 hr hn za zc sa sc h)
  have z3 : jk_S r b c ≠ 0 := fun h => nbc (jk_S_0 hr hn zb zc sb sc h)
  have s1 := jk_S_sw r a b
  have s2 := jk_S_sw r a c
  have s3 := jk_S_sw r b c
  have mab := m a b c ha hb hc za zb zc sa sb sc nab
  have mac := m a c b ha hc hb za zc zb sa sc sb nac
  have mba := m b a c hb ha hc zb za zc sb sa sc (fun h => nab (sy h))
  have mbc := m b c a hb hc ha zb zc za sb sc sa nbc
  have mca := m c a b hc ha hb zc za zb sc sa sb (fun h => nac (sy h))
  have mcb := m c b a hc hb ha zc zb za sc sb sa (fun h => nbc (sy h))
  rcases (show jk_S r a b < 0 ∨ 0 < jk_S r a b by omega) with h1 | h1 <;> rcases (show jk_S r a c < 0 ∨ 0 < jk_S r a c by omega) with h2 | h2 <;> rcases (show jk_S r b c < 0 ∨ 0 < jk_S r b c by omega) with h3 | h3 <;> first | exact mab (by omega) (by omega) | exact mac (by omega) (by omega) | exact mba (by omega) (by omega) | exact mbc (by omega) (by omega) | exact mca (by omega) (by omega) | exact mcb (by omega) (by omega)

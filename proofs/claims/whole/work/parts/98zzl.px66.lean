/-! ===== behind: what it comes to; the class ===== -/
/-- ahead by the first wish of a list by which they differ -/
def jn_ah (σ : jw_H) : List Int → Int → Int → Prop
  | [], _, _ => False
  | d :: ds, i, j => jm_wl σ d j i ∨ (¬ jm_wl σ d i j ∧ jn_ah σ ds i j)
theorem jn_fl3 {a b c u v w : Int} (hu : 0 < u) (hv : 0 < v) (hw : 0 < w) (h1 : a * v ≤ b * u) (h2 : b * w < c * v) : a * w < c * u := by
  have e1 := Int.mul_le_mul_of_nonneg_left h1 (Int.le_of_lt hw)
  have e2 := Int.mul_lt_mul_of_pos_left h2 hu
  have e3 : v * (a * w) < v * (c * u) := by
    have k1 : w * (a * v) = v * (a * w) := by grind
    have k2 : w * (b * u) = u * (b * w) := by grind
    have k3 : u * (c * v) = v * (c * u) := by grind
    omega
  exact Int.lt_of_mul_lt_mul_left e3 (Int.le_of_lt hv)
theorem jn_wl_nt {σ : jw_H} (hcb : jm_cbd σ) {d i j k : Int} (i0 : 0 ≤ i) (i1 : i < σ 103 56) (j0 : 0 ≤ j) (j1 : j < σ 103 56) (k0 : 0 ≤ k) (k1 : k < σ 103 56) (h1 : ¬ jm_wl σ d j i) (h2 : jm_wl σ d j k) : jm_wl σ d i k := by
  have wi := jm_cw hcb i0 i1
  have wj := jm_cw hcb j0 j1
  have wk := jm_cw hcb k0 k1
  unfold jm_wl at *
  exact jn_fl3 wi wj wk (by omega) h2
theorem jn_ah_ir (σ : jw_H) : ∀ (ds : List Int) (i : Int), ¬ jn_ah σ ds i i
  | [], _, h => h
  | d :: ds, i, h => by
    rcases h with h | h
    · unfold jm_wl at h
      omega
    · exact jn_ah_ir σ ds i h.2
theorem jn_ah_nt {σ : jw_H} (hcb : jm_cbd σ) : ∀ {ds : List Int} {i j k : Int}, 0 ≤ i ∧ i < σ 103 56 → 0 ≤ j ∧ j < σ 103 56 → 0 ≤ k ∧ k < σ 103 56 → jn_ah σ ds i k → jn_ah σ ds i j ∨ jn_ah σ ds j k
  | [], _, _, _, _, _, _, h => h.elim
  | d :: ds, i, j, k, hi, hj, hk, h => by
    by_cases a : jm_wl σ d j i
    · exact .inl (.inl a)
    · by_cases b : jm_wl σ d k j
      · exact .inr (.inl b)
      · rcases h with h | ⟨h1, h2⟩
        · exact absurd (jn_wl_nt hcb hj.1 hj.2 hk.1 hk.2 hi.1 hi.2 b h) a
        · have c1 : ¬ jm_wl σ d i j := fun hh => h1 (by
            by_cases z : jm_wl σ d i k
            · exact z
            · exact absurd (jn_wl_nt hcb hk.1 hk.2 hi.1 hi.2 hj.1 hj.2 z hh) b)
          have c2 : ¬ jm_wl σ d j k := fun hh => h1 (jn_wl_nt hcb hi.1 hi.2 hj.1 hj.2 hk.1 hk.2 a hh)
          rcases jn_ah_nt hcb hi hj hk h2 with h3 | h3
          · exact .inl (.inr ⟨c1, h3⟩)
          · exact .inr (.inr ⟨c2, h3⟩)
theorem jn_ah_as {σ : jw_H} : ∀ {ds : List Int} {i j : Int}, jn_ah σ ds i j → ¬ jn_ah σ ds j i
  | [], _, _, h, _ => h
  | d :: ds, i, j, h, h2 => by
    rcases h with h | ⟨h1, h⟩
    · rcases h2 with h2 | ⟨h3, -⟩
      · unfold jm_wl at h h2
        omega
      · exact h3 h
    · rcases h2 with h2 | ⟨-, h2⟩
      · exact h1 h2
      · exact jn_ah_as h h2
theorem jn_ah_me {σ0 σ : jw_H} (h : jx_me σ0 σ) : ∀ (ds : List Int) (i j : Int), jn_ah σ ds i j ↔ jn_ah σ0 ds i j
  | [], _, _ => Iff.rfl
  | d :: ds, i, j => by
    unfold jn_ah
    rw [jn_ah_me h ds i j]
    have e : ∀ a b, jm_wl σ d a b ↔ jm_wl σ0 d a b := fun a b => by
      unfold jm_wl jm_W
      rw [jx_me_ct h, jx_me_ct h, h 104 (by omega), h 135 (by omega)]
    rw [e, e]
/-- the order: wishes, the first one first -/
def jn_dsW (W m : Int) : List Int := if W = 1 then [m % 10] else if W = 2 then [m / 10 % 10, m % 10] else [m / 100 % 10, m / 10 % 10, m % 10]
def jn_okW (W m : Int) : Prop := (W = 1 ∧ m = 0) ∨ (W = 2 ∧ (m = 1 ∨ m = 10)) ∨ (W = 3 ∧ (m = 12 ∨ m = 21 ∨ m = 102 ∨ m = 120 ∨ m = 201 ∨ m = 210))
/-- the answer of behind -/
def jn_bha (σ : jw_H) (m v : Int) : Prop := (v = -1 ∧ ¬ jn_okW (σ 103 4) m) ∨ (jn_okW (σ 103 4) m ∧ ((v = -2 ∧ σ 103 56 = 0) ∨ ((0 ≤ v ∧ v < σ 103 56) ∧ (∀ j, 0 ≤ j → j < σ 103 56 → ¬ jn_ah σ (jn_dsW (σ 103 4) m) j v) ∧ ∀ i, 0 ≤ i → i < v → ∃ j, 0 ≤ j ∧ j < σ 103 56 ∧ jn_ah σ (jn_dsW (σ 103 4) m) j i)))
theorem jn_bha_uq {σ : jw_H} {m u v : Int} (h1 : jn_bha σ m u) (h2 : jn_bha σ m v) : u = v := by
  rcases h1 with ⟨e1, a1⟩ | ⟨a1, ⟨e1, b1⟩ | ⟨b1, c1, d1⟩⟩ <;> rcases h2 with ⟨e2, a2⟩ | ⟨a2, ⟨e2, b2⟩ | ⟨b2, c2, d2⟩⟩ <;> first | exact e1.trans e2.symm | exact absurd a1 a2 | exact absurd a2 a1 | omega | (rcases (show u < v ∨ u = v ∨ v < u by omega) with h | h | h; (obtain ⟨j, j0, j1, hj⟩ := d2 u b1.1 h; exact absurd hj (c1 j j0 j1)); exact h; (obtain ⟨j, j0, j1, hj⟩ := d1 v b2.1 h; exact absurd hj (c2 j j0 j1)))
theorem jn_bha_me {σ0 σ : jw_H} (h : jx_me σ0 σ) (m v : Int) : jn_bha σ m v ↔ jn_bha σ0 m v := by
  unfold jn_bha
  simp only [jn_ah_me h, h 103 (by omega)]
theorem jn_dm {x : Int} (hx : jw_rg x) : ∃ r d, jw_rem x 10 = d ∧ jw_div x 10 = r ∧ x = 10 * r + d ∧ jw_rg r ∧ ((0 ≤ x ∧ 0 ≤ d ∧ d ≤ 9 ∧ 0 ≤ r) ∨ (x < 0 ∧ -9 ≤ d ∧ d ≤ 0 ∧ r ≤ 0)) := by
  have hx2 := hx
  unfold jw_rg at hx2
  have e1 := jn_trem hx (y := 10) (by unfold jw_rg; omega)
  have e2 := jn_tdiv hx (y := 10) (by unfold jw_rg; omega) (by omega)
  have e3 := Int.mul_tdiv_add_tmod x 10
  by_cases h : 0 ≤ x
  · have h1 := Int.tmod_eq_emod_of_nonneg h (b := 10)
    have h2 := Int.tdiv_eq_ediv_of_nonneg h (b := 10)
    refine ⟨x.tdiv 10, x.tmod 10, e1, e2, e3.symm, ?_, .inl ?_⟩
    · unfold jw_rg
      omega
    · omega
  · have h1 := Int.tmod_eq_emod_of_nonneg (a := -x) (by omega) (b := 10)
    have h2 := Int.tdiv_eq_ediv_of_nonneg (a := -x) (by omega) (b := 10)
    rw [Int.neg_tmod] at h1
    rw [Int.neg_tdiv] at h2
    refine ⟨x.tdiv 10, x.tmod 10, e1, e2, e3.symm, ?_, .inr ?_⟩
    · unfold jw_rg
      omega
    · omega
theorem jn_seen1 : ∀ a : Fin 1, jw_or 0 (jw_shl 1 (a.val : Int)) = jw_shl 1 1 - 1 := by decide +kernel
theorem jn_seen2 : ∀ a b : Fin 2, jw_or (jw_or 0 (jw_shl 1 (a.val : Int))) (jw_shl 1 (b.val : Int)) = jw_shl 1 2 - 1 ↔ a ≠ b := by decide +kernel
theorem jn_seen3 : ∀ a b c : Fin 3, jw_or (jw_or (jw_or 0 (jw_shl 1 (a.val : Int))) (jw_shl 1 (b.val : Int))) (jw_shl 1 (c.val : Int)) = jw_shl 1 3 - 1 ↔ (a ≠ b ∧ a ≠ c ∧ b ≠ c) := by decide +kernel
theorem jn_seenR : (∀ a b c : Fin 3, (0 ≤ jw_or (jw_or (jw_or 0 (jw_shl 1 (a.val : Int))) (jw_shl 1 (b.val : Int))) (jw_shl 1 (c.val : Int)) ∧ jw_or (jw_or (jw_or 0 (jw_shl 1 (a.val : Int))) (jw_shl 1 (b.val : Int))) (jw_shl 1 (c.val : Int)) ≤ 1048575) ∧ (0 ≤ jw_or (jw_or 0 (jw_shl 1 (a.val : Int))) (jw_shl 1 (b.val : Int)) ∧ jw_or (jw_or 0 (jw_shl 1 (a.val : Int))) (jw_shl 1 (b.val : Int)) ≤ 1048575) ∧ (0 ≤ jw_or 0 (jw_shl 1 (a.val : Int)) ∧ jw_or 0 (jw_shl 1 (a.val : Int)) ≤ 1048575)) := by decide +kernel
theorem jn_fin {a : Int} {m : Nat} (a0 : 0 ≤ a) (a1 : a < m) : ∃ f : Fin m, a = (f.val : Int) := ⟨⟨a.toNat, by omega⟩, by show a = (a.toNat : Int); omega⟩
theorem jn_s1 {a : Int} (a0 : 0 ≤ a ∧ a < 3) : 0 ≤ jw_or 0 (jw_shl 1 a) ∧ jw_or 0 (jw_shl 1 a) ≤ 1048575 := by
  obtain ⟨f, rfl⟩ := jn_fin (m := 3) a0.1 a0.2
  exact (jn_seenR f f f).2.2
theorem jn_s2 {a b : Int} (a0 : 0 ≤ a ∧ a < 3) (b0 : 0 ≤ b ∧ b < 3) : 0 ≤ jw_or (jw_or 0 (jw_shl 1 a)) (jw_shl 1 b) ∧ jw_or (jw_or 0 (jw_shl 1 a)) (jw_shl 1 b) ≤ 1048575 := by
  obtain ⟨f, rfl⟩ := jn_fin (m := 3) a0.1 a0.2
  obtain ⟨g, rfl⟩ := jn_fin (m := 3) b0.1 b0.2
  exact (jn_seenR f g f).2.1
theorem jn_s3 {a b c : Int} (a0 : 0 ≤ a ∧ a < 3) (b0 : 0 ≤ b ∧ b < 3) (c0 : 0 ≤ c ∧ c < 3) : (0 ≤ jw_or (jw_or (jw_or 0 (jw_shl 1 a)) (jw_shl 1 b)) (jw_shl 1 c) ∧ jw_or (jw_or (jw_or 0 (jw_shl 1 a)) (jw_shl 1 b)) (jw_shl 1 c) ≤ 1048575) ∧ (jw_or (jw_or (jw_or 0 (jw_shl 1 a)) (jw_shl 1 b)) (jw_shl 1 c) = 7 ↔ (a ≠ b ∧ a ≠ c ∧ b ≠ c)) := by
  obtain ⟨f, rfl⟩ := jn_fin (m := 3) a0.1 a0.2
  obtain ⟨g, rfl⟩ := jn_fin (m := 3) b0.1 b0.2
  obtain ⟨h, rfl⟩ := jn_fin (m := 3) c0.1 c0.2
  have e7 : jw_shl 1 3 - 1 = 7 := by decide +kernel
  have e := jn_seen3 f g h
  rw [e7] at e
  refine ⟨(jn_seenR f g h).1, e.trans ?_⟩
  constructor
  · rintro ⟨h1, h2, h3⟩
    exact ⟨fun hh => h1 (Fin.ext (by omega)), fun hh => h2 (Fin.ext (by omega)), fun hh => h3 (Fin.ext (by omega))⟩
  · rintro ⟨h1, h2, h3⟩
    exact ⟨fun hh => h1 (by rw [hh]), fun hh => h2 (by rw [hh]), fun hh => h3 (by rw [hh])⟩
theorem jn_e1 {a : Int} (a0 : 0 ≤ a ∧ a < 1) : jw_or 0 (jw_shl 1 a) = 1 := by
  obtain ⟨f, rfl⟩ := jn_fin (m := 1) a0.1 a0.2
  have e1 : jw_shl 1 1 - 1 = 1 := by decide +kernel
  rw [jn_seen1 f, e1]
theorem jn_e2 {a b : Int} (a0 : 0 ≤ a ∧ a < 2) (b0 : 0 ≤ b ∧ b < 2) : jw_or (jw_or 0 (jw_shl 1 a)) (jw_shl 1 b) = 3 ↔ a ≠ b := by
  obtain ⟨f, rfl⟩ := jn_fin (m := 2) a0.1 a0.2
  obtain ⟨g, rfl⟩ := jn_fin (m := 2) b0.1 b0.2
  have e3 : jw_shl 1 2 - 1 = 3 := by decide +kernel
  rw [← e3]
  refine (jn_seen2 f g).trans ?_
  constructor
  · intro h1 hh
    exact h1 (Fin.ext (by omega))
  · intro h1 hh
    exact h1 (by rw [hh])
/-- the places as the class keeps them -/
def jn_pls (σ : jw_H) (W m : Int) : Prop := (W = 1 ∧ σ 101 0 = m % 10) ∨ (W = 2 ∧ σ 101 0 = m / 10 % 10 ∧ σ 101 1 = m % 10) ∨ (W = 3 ∧ σ 101 0 = m / 100 % 10 ∧ σ 101 1 = m / 10 % 10 ∧ σ 101 2 = m % 10)
theorem jx_readOrder_0 {n : Nat} {σ : jw_H} {o : Nat} {C : List (ge_R × Int)} (hK : jx_K n o C σ) (hW4 : σ 103 4 = 0) {m : Int} (hm : jw_rg m) : jw_T (js_S n) 2 130 [.inr (.inr 13), .inl m] σ (fun r σ' => ∃ v, r = some (.inl v) ∧ jx_fy σ σ' ∧ ((v = 1 ∧ jn_okW 0 m ∧ jn_pls σ' 0 m) ∨ (v = 0 ∧ ¬ jn_okW 0 m))) := by
  refine jw_T_of (D := 1) (M := mm_130) rfl (Nat.le_of_ble_eq_true rfl) (ls0 := [some (.inr (.inr 13)), some (.inl m), none, none, none, none]) rfl ?_ (by rintro _ _ ⟨v, rfl, -, ⟨rfl, -⟩ | ⟨rfl, -⟩⟩ <;> rfl)
  have hI := hK.1
  obtain ⟨hto, hfo, hp, hP, e0, e1, e2, hPm, hcb, c0, p0, -⟩ := jx_I0_x hI
  have ho := hp.1
  have hq := hP.1
  have hw := hP.2.1
  have hq2 := hP.2.2.1
  have hcn := hcb.1
  have hW : σ o 1 = 0 := by rw [e1, hW4]
  obtain ⟨r1, d1, ed1, er1, em1, rg1, sg1⟩ := jn_dm hm
  obtain ⟨r2, d2, ed2, er2, em2, rg2, sg2⟩ := jn_dm rg1
  obtain ⟨r3, d3, ed3, er3, em3, rg3, sg3⟩ := jn_dm rg2
  have rhm := hm
  unfold jw_rg at rhm
  have rrg1 := rg1
  unfold jw_rg at rrg1
  have rrg2 := rg2
  unfold jw_rg at rrg2
  have rrg3 := rg3
  unfold jw_rg at rrg3
  refine jw_W_n 5 (i' := 5) (ls' := [some (.inr (.inr 13)), some (.inl m), some (.inl m), some (.inl 0), none, none]) (st' := [.inr (.inr 13)]) rfl ?_
  refine jw_W_gf rfl rfl rfl ?_
  show jw_W (js_S n) _ md_130 6 [some (.inr (.inr 13)), some (.inl m), some (.inl m), some (.inl 0), none, none] [.inr (.inr ((σ 13 2).toNat))] σ _
  rw [hto]
  refine jw_W_gf rfl hp.2.1 rfl ?_
  show jw_W (js_S n) _ md_130 7 [some (.inr (.inr 13)), some (.inl m), some (.inl m), some (.inl 0), none, none] [.inl (σ o 1)] σ _
  rw [show (σ o 1 : Int) = 0 from by rw [hW]]
  refine jw_W_n 4 (i' := 11) (ls' := [some (.inr (.inr 13)), some (.inl m), some (.inl m), some (.inl 0), some (.inl ((-1))), none]) (st' := [.inl ((-1))]) rfl ?_
  refine jw_W_if rfl (by unfold jw_rg; omega) (fun hc1 => ?_) (fun hc1 => ?_)
  · clear hc1
    refine jw_W_n 1 (i' := 40) (ls' := [some (.inr (.inr 13)), some (.inl m), some (.inl m), some (.inl 0), some (.inl ((-1))), none]) (st' := [.inr (.inr 13)]) rfl ?_
    refine jw_W_gf rfl rfl rfl ?_
    show jw_W (js_S n) _ md_130 41 [some (.inr (.inr 13)), some (.inl m), some (.inl m), some (.inl 0), some (.inl ((-1))), none] [.inr (.inr ((σ 13 2).toNat))] σ _
    rw [hto]
    refine jw_W_gf rfl hp.2.1 rfl ?_
    show jw_W (js_S n) _ md_130 42 [some (.inr (.inr 13)), some (.inl m), some (.inl m), some (.inl 0), some (.inl ((-1))), none] [.inl (σ o 1)] σ _
    rw [show (σ o 1 : Int) = 0 from by rw [hW]]
    refine jw_W_if rfl (by unfold jw_rg; omega) (fun hc2 => ?_) (fun hc2 => ?_)
    · clear hc2
      refine jw_W_n 1 (i' := 53) (ls' := [some (.inr (.inr 13)), some (.inl m), some (.inl m), some (.inl 0), some (.inl ((-1))), none]) (st' := [.inl 0]) rfl ?_
      refine jw_W_ir rfl ?_
      refine ⟨_, rfl, jx_fy_rf σ, .inr ⟨rfl, fun hh => ?_⟩⟩
      unfold jn_okW at hh
      omega
    · exact absurd hc2 (show ¬ ¬ ((0 : Int) ≤ 0) by omega)
  · exact absurd hc1 (show ¬ ¬ ((((-1 : Int))) < 0) by omega)
theorem jx_readOrder_1 {n : Nat} {σ : jw_H} {o : Nat} {C : List (ge_R × Int)} (hK : jx_K n o C σ) (hW4 : σ 103 4 = 1) {m : Int} (hm : jw_rg m) : jw_T (js_S n) 2 130 [.inr (.inr 13), .inl m] σ (fun r σ' => ∃ v, r = some (.inl v) ∧ jx_fy σ σ' ∧ ((v = 1 ∧ jn_okW 1 m ∧ jn_pls σ' 1 m) ∨ (v = 0 ∧ ¬ jn_okW 1 m))) := by
  refine jw_T_of (D := 1) (M := mm_130) rfl (Nat.le_of_ble_eq_true rfl) (ls0 := [some (.inr (.inr 13)), some (.inl m), none, none, none, none]) rfl ?_ (by rintro _ _ ⟨v, rfl, -, ⟨rfl, -⟩ | ⟨rfl, -⟩⟩ <;> rfl)
  have hI := hK.1
  obtain ⟨hto, hfo, hp, hP, e0, e1, e2, hPm, hcb, c0, p0, -⟩ := jx_I0_x hI
  have ho := hp.1
  have hq := hP.1
  have hw := hP.2.1
  have hq2 := hP.2.2.1
  have hcn := hcb.1
  have hW : σ o 1 = 1 := by rw [e1, hW4]
  obtain ⟨r1, d1, ed1, er1, em1, rg1, sg1⟩ := jn_dm hm
  obtain ⟨r2, d2, ed2, er2, em2, rg2, sg2⟩ := jn_dm rg1
  obtain ⟨r3, d3, ed3, er3, em3, rg3, sg3⟩ := jn_dm rg2
  have rhm := hm
  unfold jw_rg at rhm
  have rrg1 := rg1
  unfold jw_rg at rrg1
  have rrg2 := rg2
  unfold jw_rg at rrg2
  have rrg3 := rg3
  unfold jw_rg at rrg3
  refine jw_W_n 5 (i' := 5) (ls' := [some (.inr (.inr 13)), some (.inl m), some (.inl m), some (.inl 0), none, none]) (st' := [.inr (.inr 13)]) rfl ?_
  refine jw_W_gf rfl rfl rfl ?_
  show jw_W (js_S n) _ md_130 6 [some (.inr (.inr 13)), some (.inl m), some (.inl m), some (.inl 0), none, none] [.inr (.inr ((σ 13 2).toNat))] σ _
  rw [hto]
  refine jw_W_gf rfl hp.2.1 rfl ?_
  show jw_W (js_S n) _ md_130 7 [some (.inr (.inr 13)), some (.inl m), some (.inl m), some (.inl 0), none, none] [.inl (σ o 1)] σ _
  rw [show (σ o 1 : Int) = 1 from by rw [hW]]
  refine jw_W_n 4 (i' := 11) (ls' := [some (.inr (.inr 13)), some (.inl m), some (.inl m), some (.inl 0), some (.inl 0), none]) (st' := [.inl 0]) rfl ?_
  refine jw_W_if rfl (by unfold jw_rg; omega) (fun hc1 => ?_) (fun hc1 => ?_)
  · exact absurd hc1 (show ¬ ((0 : Int) < 0) by omega)
  · clear hc1
    refine jw_W_n 2 (i' := 14) (ls' := [some (.inr (.inr 13)), some (.inl m), some (.inl m), some (.inl 0), some (.inl 0), none]) (st' := [.inl 10, .inl m]) rfl ?_
    refine jw_W_irem rfl (by unfold jw_rg; omega) (by omega) ?_
    rw [ed1]
    refine jw_W_n 3 (i' := 18) (ls' := [some (.inr (.inr 13)), some (.inl m), some (.inl m), some (.inl 0), some (.inl 0), some (.inl d1)]) (st' := [.inl 10, .inl m]) rfl ?_
    refine jw_W_idiv rfl (by unfold jw_rg; omega) (by omega) ?_
    rw [er1]
    refine jw_W_n 3 (i' := 22) (ls' := [some (.inr (.inr 13)), some (.inl m), some (.inl r1), some (.inl 0), some (.inl 0), some (.inl d1)]) (st' := [.inl d1, .inr (.inr 13)]) rfl ?_
    refine jw_W_call (as := [.inr (.inr 13), .inl d1]) (rest := []) rfl rfl rfl rfl (Nat.le_of_ble_eq_true rfl) (.inr rfl) (jx_isWish (jx_K_y (jx_fy_rf σ) hK) (by unfold jw_rg; omega)) (by omega) ?_ rfl
    rintro r1 σz (⟨rfl, hs, hwd1⟩ | ⟨rfl, hs, hwd1⟩)
    · rw [hs]
      have hwd1 : 0 ≤ d1 ∧ d1 < σ 103 4 := hwd1
      show jw_W (js_S n) _ md_130 23 [some (.inr (.inr 13)), some (.inl m), some (.inl r1), some (.inl 0), some (.inl 0), some (.inl d1)] [.inl 1] σ _
      refine jw_W_if rfl (by unfold jw_rg; omega) (fun hc2 => ?_) (fun hc2 => ?_)
      · clear hc2
        refine jw_W_n 1 (i' := 27) (ls' := [some (.inr (.inr 13)), some (.inl m), some (.inl r1), some (.inl 0), some (.inl 0), some (.inl d1)]) (st' := [.inr (.inr 13)]) rfl ?_
        refine jw_W_gf rfl rfl rfl ?_
        show jw_W (js_S n) _ md_130 28 [some (.inr (.inr 13)), some (.inl m), some (.inl r1), some (.inl 0), some (.inl 0), some (.inl d1)] [.inr (.inr 101)] σ _
        refine jw_W_n 2 (i' := 30) (ls' := [some (.inr (.inr 13)), some (.inl m), some (.inl r1), some (.inl 0), some (.inl 0), some (.inl d1)]) (st' := [.inl d1, .inl 0, .inr (.inr 101)]) rfl ?_
        refine jw_W_is rfl (by omega) rfl (by omega) (by omega) (by omega) ?_
        refine jw_W_n 5 (i' := 36) (ls' := [some (.inr (.inr 13)), some (.inl m), some (.inl r1), some (.inl 0), some (.inl 0), some (.inl d1)]) (st' := [.inl (jw_or 0 (jw_shl 1 d1))]) rfl ?_
        have hs1 := jn_s1 (a := d1) (by omega)
        have he1 := jn_e1 (a := d1) (by omega)
        refine jw_W_n 4 (i' := 11) (ls' := [some (.inr (.inr 13)), some (.inl m), some (.inl r1), some (.inl (jw_or 0 (jw_shl 1 d1))), some (.inl ((-1))), some (.inl d1)]) (st' := [.inl ((-1))]) rfl ?_
        refine jw_W_if rfl (by unfold jw_rg; omega) (fun hc3 => ?_) (fun hc3 => ?_)
        · clear hc3
          refine jw_W_n 1 (i' := 40) (ls' := [some (.inr (.inr 13)), some (.inl m), some (.inl r1), some (.inl (jw_or 0 (jw_shl 1 d1))), some (.inl ((-1))), some (.inl d1)]) (st' := [.inr (.inr 13)]) rfl ?_
          refine jw_W_gf rfl rfl rfl ?_
          show jw_W (js_S n) _ md_130 41 [some (.inr (.inr 13)), some (.inl m), some (.inl r1), some (.inl (jw_or 0 (jw_shl 1 d1))), some (.inl ((-1))), some (.inl d1)] [.inr (.inr ((σ 13 2).toNat))] ((jw_up σ 101 0 d1)) _
          rw [hto]
          refine jw_W_gf rfl hp.2.1 rfl ?_
          show jw_W (js_S n) _ md_130 42 [some (.inr (.inr 13)), some (.inl m), some (.inl r1), some (.inl (jw_or 0 (jw_shl 1 d1))), some (.inl ((-1))), some (.inl d1)] [.inl ((jw_up σ 101 0 d1) o 1)] ((jw_up σ 101 0 d1)) _
          rw [show ((jw_up σ 101 0 d1) o 1 : Int) = 1 from by rw [jw_up_out _ _ _ (by omega), hW]]
          refine jw_W_if rfl (by unfold jw_rg; omega) (fun hc4 => ?_) (fun hc4 => ?_)
          · exact absurd hc4 (show ¬ ((1 : Int) ≤ 0) by omega)
          · clear hc4
            refine jw_W_n 1 (i' := 44) (ls' := [some (.inr (.inr 13)), some (.inl m), some (.inl r1), some (.inl (jw_or 0 (jw_shl 1 d1))), some (.inl ((-1))), some (.inl d1)]) (st' := [.inl r1]) rfl ?_
            refine jw_W_if rfl (by unfold jw_rg; omega) (fun hc5 => ?_) (fun hc5 => ?_)
            · have hc5 : r1 ≠ 0 := hc5
              refine jw_W_n 1 (i' := 53) (ls' := [some (.inr (.inr 13)), some (.inl m), some (.inl r1), some (.inl (jw_or 0 (jw_shl 1 d1))), some (.inl ((-1))), some (.inl d1)]) (st' := [.inl 0]) rfl ?_
              refine jw_W_ir rfl ?_
              refine ⟨_, rfl, jx_fy_up (jx_fy_rf σ) (by omega), .inr ⟨rfl, fun hh => ?_⟩⟩
              unfold jn_okW at hh
              omega
            · have hc5 : r1 = 0 := Classical.not_not.mp hc5
              refine jw_W_n 2 (i' := 47) (ls' := [some (.inr (.inr 13)), some (.inl m), some (.inl r1), some (.inl (jw_or 0 (jw_shl 1 d1))), some (.inl ((-1))), some (.inl d1)]) (st' := [.inr (.inr 13), .inl (jw_or 0 (jw_shl 1 d1))]) rfl ?_
              refine jw_W_gf rfl rfl rfl ?_
              show jw_W (js_S n) _ md_130 48 [some (.inr (.inr 13)), some (.inl m), some (.inl r1), some (.inl (jw_or 0 (jw_shl 1 d1))), some (.inl ((-1))), some (.inl d1)] [.inr (.inr ((σ 13 2).toNat)), .inl (jw_or 0 (jw_shl 1 d1))] ((jw_up σ 101 0 d1)) _
              rw [hto]
              refine jw_W_call (as := [.inr (.inr o)]) (rest := [.inl (jw_or 0 (jw_shl 1 d1))]) rfl rfl rfl rfl (Nat.le_of_ble_eq_true rfl) (.inr (jx_rc hp.2.1)) (jx_everyWish hp) (by omega) ?_ rfl
              rintro r1 σz ⟨rfl, hs⟩
              rw [hs, show jw_shl 1 (((jw_up σ 101 0 d1) : jw_H) o 1) - 1 = 1 by rw [show ((jw_up σ 101 0 d1) : jw_H) o 1 = 1 from by rw [jw_up_out _ _ _ (by omega), show (σ : jw_H) o 1 = 1 from hW]]; decide +kernel]
              show jw_W (js_S n) _ md_130 49 [some (.inr (.inr 13)), some (.inl m), some (.inl r1), some (.inl (jw_or 0 (jw_shl 1 d1))), some (.inl ((-1))), some (.inl d1)] [.inl 1, .inl (jw_or 0 (jw_shl 1 d1))] ((jw_up σ 101 0 d1)) _
              refine jw_W_ic rfl (by unfold jw_rg; omega) (by unfold jw_rg; omega) (fun hc6 => ?_) (fun hc6 => ?_)
              · have hc6 : (jw_or 0 (jw_shl 1 d1)) ≠ 1 := hc6
                refine jw_W_n 1 (i' := 53) (ls' := [some (.inr (.inr 13)), some (.inl m), some (.inl r1), some (.inl (jw_or 0 (jw_shl 1 d1))), some (.inl ((-1))), some (.inl d1)]) (st' := [.inl 0]) rfl ?_
                refine jw_W_ir rfl ?_
                refine ⟨_, rfl, jx_fy_up (jx_fy_rf σ) (by omega), .inr ⟨rfl, fun hh => ?_⟩⟩
                unfold jn_okW at hh
                omega
              · have hc6 : (jw_or 0 (jw_shl 1 d1)) = 1 := Classical.not_not.mp hc6
                refine jw_W_n 2 (i' := 53) (ls' := [some (.inr (.inr 13)), some (.inl m), some (.inl r1), some (.inl (jw_or 0 (jw_shl 1 d1))), some (.inl ((-1))), some (.inl d1)]) (st' := [.inl 1]) rfl ?_
                refine jw_W_ir rfl ?_
                refine ⟨_, rfl, jx_fy_up (jx_fy_rf σ) (by omega), .inl ⟨rfl, ?_, ?_⟩⟩
                · unfold jn_okW
                  omega
                · unfold jn_pls
                  refine .inl ⟨rfl, ?_⟩
                  rw [jw_up_eq]
                  omega
        · exact absurd hc3 (show ¬ ¬ ((((-1 : Int))) < 0) by omega)
      · exact absurd hc2 (show ¬ ¬ ((1 : Int) ≠ 0) by omega)
    · rw [hs]
      have hwd1 : ¬ (0 ≤ d1 ∧ d1 < σ 103 4) := hwd1
      show jw_W (js_S n) _ md_130 23 [some (.inr (.inr 13)), some (.inl m), some (.inl r1), some (.inl 0), some (.inl 0), some (.inl d1)] [.inl 0] σ _
      refine jw_W_if rfl (by unfold jw_rg; omega) (fun hc7 => ?_) (fun hc7 => ?_)
      · exact absurd hc7 (show ¬ ((0 : Int) ≠ 0) by omega)
      · clear hc7
        refine jw_W_n 1 (i' := 25) (ls' := [some (.inr (.inr 13)), some (.inl m), some (.inl r1), some (.inl 0), some (.inl 0), some (.inl d1)]) (st' := [.inl 0]) rfl ?_
        refine jw_W_ir rfl ?_
        refine ⟨_, rfl, jx_fy_rf σ, .inr ⟨rfl, fun hh => ?_⟩⟩
        unfold jn_okW at hh
        omega
theorem jx_readOrder_2 {n : Nat} {σ : jw_H} {o : Nat} {C : List (ge_R × Int)} (hK : jx_K n o C σ) (hW4 : σ 103 4 = 2) {m : Int} (hm : jw_rg m) : jw_T (js_S n) 2 130 [.inr (.inr 13), .inl m] σ (fun r σ' => ∃ v, r = some (.inl v) ∧ jx_fy σ σ' ∧ ((v = 1 ∧ jn_okW 2 m ∧ jn_pls σ' 2 m) ∨ (v = 0 ∧ ¬ jn_okW 2 m))) := by
  refine jw_T_of (D := 1) (M := mm_130) rfl (Nat.le_of_ble_eq_true rfl) (ls0 := [some (.inr (.inr 13)), some (.inl m), none, none, none, none]) rfl ?_ (by rintro _ _ ⟨v, rfl, -, ⟨rfl, -⟩ | ⟨rfl, -⟩⟩ <;> rfl)
  have hI := hK.1
  obtain ⟨hto, hfo, hp, hP, e0, e1, e2, hPm, hcb, c0, p0, -⟩ := jx_I0_x hI
  have ho := hp.1
  have hq := hP.1
  have hw := hP.2.1
  have hq2 := hP.2.2.1
  have hcn := hcb.1
  have hW : σ o 1 = 2 := by rw [e1, hW4]
  obtain ⟨r1, d1, ed1, er1, em1, rg1, sg1⟩ := jn_dm hm
  obtain ⟨r2, d2, ed2, er2, em2, rg2, sg2⟩ := jn_dm rg1
  obtain ⟨r3, d3, ed3, er3, em3, rg3, sg3⟩ := jn_dm rg2
  have rhm := hm
  unfold jw_rg at rhm
  have rrg1 := rg1
  unfold jw_rg at rrg1
  have rrg2 := rg2
  unfold jw_rg at rrg2
  have rrg3 := rg3
  unfold jw_rg at rrg3
  refine jw_W_n 5 (i' := 5) (ls' := [some (.inr (.inr 13)), some (.inl m), some (.inl m), some (.inl 0), none, none]) (st' := [.inr (.inr 13)]) rfl ?_
  refine jw_W_gf rfl rfl rfl ?_
  show jw_W (js_S n) _ md_130 6 [some (.inr (.inr 13)), some (.inl m), some (.inl m), some (.inl 0), none, none] [.inr (.inr ((σ 13 2).toNat))] σ _
  rw [hto]
  refine jw_W_gf rfl hp.2.1 rfl ?_
  show jw_W (js_S n) _ md_130 7 [some (.inr (.inr 13)), some (.inl m), some (.inl m), some (.inl 0), none, none] [.inl (σ o 1)] σ _
  rw [show (σ o 1 : Int) = 2 from by rw [hW]]
  refine jw_W_n 4 (i' := 11) (ls' := [some (.inr (.inr 13)), some (.inl m), some (.inl m), some (.inl 0), some (.inl 1), none]) (st' := [.inl 1]) rfl ?_
  refine jw_W_if rfl (by unfold jw_rg; omega) (fun hc1 => ?_) (fun hc1 => ?_)
  · exact absurd hc1 (show ¬ ((1 : Int) < 0) by omega)
  · clear hc1
    refine jw_W_n 2 (i' := 14) (ls' := [some (.inr (.inr 13)), some (.inl m), some (.inl m), some (.inl 0), some (.inl 1), none]) (st' := [.inl 10, .inl m]) rfl ?_
    refine jw_W_irem rfl (by unfold jw_rg; omega) (by omega) ?_
    rw [ed1]
    refine jw_W_n 3 (i' := 18) (ls' := [some (.inr (.inr 13)), some (.inl m), some (.inl m), some (.inl 0), some (.inl 1), some (.inl d1)]) (st' := [.inl 10, .inl m]) rfl ?_
    refine jw_W_idiv rfl (by unfold jw_rg; omega) (by omega) ?_
    rw [er1]
    refine jw_W_n 3 (i' := 22) (ls' := [some (.inr (.inr 13)), some (.inl m), some (.inl r1), some (.inl 0), some (.inl 1), some (.inl d1)]) (st' := [.inl d1, .inr (.inr 13)]) rfl ?_
    refine jw_W_call (as := [.inr (.inr 13), .inl d1]) (rest := []) rfl rfl rfl rfl (Nat.le_of_ble_eq_true rfl) (.inr rfl) (jx_isWish (jx_K_y (jx_fy_rf σ) hK) (by unfold jw_rg; omega)) (by omega) ?_ rfl
    rintro r1 σz (⟨rfl, hs, hwd1⟩ | ⟨rfl, hs, hwd1⟩)
    · rw [hs]
      have hwd1 : 0 ≤ d1 ∧ d1 < σ 103 4 := hwd1
      show jw_W (js_S n) _ md_130 23 [some (.inr (.inr 13)), some (.inl m), some (.inl r1), some (.inl 0), some (.inl 1), some (.inl d1)] [.inl 1] σ _
      refine jw_W_if rfl (by unfold jw_rg; omega) (fun hc2 => ?_) (fun hc2 => ?_)
      · clear hc2
        refine jw_W_n 1 (i' := 27) (ls' := [some (.inr (.inr 13)), some (.inl m), some (.inl r1), some (.inl 0), some (.inl 1), some (.inl d1)]) (st' := [.inr (.inr 13)]) rfl ?_
        refine jw_W_gf rfl rfl rfl ?_
        show jw_W (js_S n) _ md_130 28 [some (.inr (.inr 13)), some (.inl m), some (.inl r1), some (.inl 0), some (.inl 1), some (.inl d1)] [.inr (.inr 101)] σ _
        refine jw_W_n 2 (i' := 30) (ls' := [some (.inr (.inr 13)), some (.inl m), some (.inl r1), some (.inl 0), some (.inl 1), some (.inl d1)]) (st' := [.inl d1, .inl 1, .inr (.inr 101)]) rfl ?_
        refine jw_W_is rfl (by omega) rfl (by omega) (by omega) (by omega) ?_
        refine jw_W_n 5 (i' := 36) (ls' := [some (.inr (.inr 13)), some (.inl m), some (.inl r1), some (.inl 0), some (.inl 1), some (.inl d1)]) (st' := [.inl (jw_or 0 (jw_shl 1 d1))]) rfl ?_
        have hs1 := jn_s1 (a := d1) (by omega)
        refine jw_W_n 4 (i' := 11) (ls' := [some (.inr (.inr 13)), some (.inl m), some (.inl r1), some (.inl (jw_or 0 (jw_shl 1 d1))), some (.inl 0), some (.inl d1)]) (st' := [.inl 0]) rfl ?_
        refine jw_W_if rfl (by unfold jw_rg; omega) (fun hc3 => ?_) (fun hc3 => ?_)
        · exact absurd hc3 (show ¬ ((0 : Int) < 0) by omega)
        · clear hc3
          refine jw_W_n 2 (i' := 14) (ls' := [some (.inr (.inr 13)), some (.inl m), some (.inl r1), some (.inl (jw_or 0 (jw_shl 1 d1))), some (.inl 0), some (.inl d1)]) (st' := [.inl 10, .inl r1]) rfl ?_
          refine jw_W_irem rfl (by unfold jw_rg; omega) (by omega) ?_
          rw [ed2]
          refine jw_W_n 3 (i' := 18) (ls' := [some (.inr (.inr 13)), some (.inl m), some (.inl r1), some (.inl (jw_or 0 (jw_shl 1 d1))), some (.inl 0), some (.inl d2)]) (st' := [.inl 10, .inl r1]) rfl ?_
          refine jw_W_idiv rfl (by unfold jw_rg; omega) (by omega) ?_
          rw [er2]
          refine jw_W_n 3 (i' := 22) (ls' := [some (.inr (.inr 13)), some (.inl m), some (.inl r2), some (.inl (jw_or 0 (jw_shl 1 d1))), some (.inl 0), some (.inl d2)]) (st' := [.inl d2, .inr (.inr 13)]) rfl ?_
          refine jw_W_call (as := [.inr (.inr 13), .inl d2]) (rest := []) rfl rfl rfl rfl (Nat.le_of_ble_eq_true rfl) (.inr rfl) (jx_isWish (jx_K_y (jx_fy_up (jx_fy_rf σ) (by omega)) hK) (by unfold jw_rg; omega)) (by omega) ?_ rfl
          rintro r1 σz (⟨rfl, hs, hwd2⟩ | ⟨rfl, hs, hwd2⟩)
          · rw [hs]
            have hwd2 : 0 ≤ d2 ∧ d2 < σ 103 4 := hwd2
            show jw_W (js_S n) _ md_130 23 [some (.inr (.inr 13)), some (.inl m), some (.inl r2), some (.inl (jw_or 0 (jw_shl 1 d1))), some (.inl 0), some (.inl d2)] [.inl 1] ((jw_up σ 101 1 d1)) _
            refine jw_W_if rfl (by unfold jw_rg; omega) (fun hc4 => ?_) (fun hc4 => ?_)
            · clear hc4
              refine jw_W_n 1 (i' := 27) (ls' := [some (.inr (.inr 13)), some (.inl m), some (.inl r2), some (.inl (jw_or 0 (jw_shl 1 d1))), some (.inl 0), some (.inl d2)]) (st' := [.inr (.inr 13)]) rfl ?_
              refine jw_W_gf rfl rfl rfl ?_
              show jw_W (js_S n) _ md_130 28 [some (.inr (.inr 13)), some (.inl m), some (.inl r2), some (.inl (jw_or 0 (jw_shl 1 d1))), some (.inl 0), some (.inl d2)] [.inr (.inr 101)] ((jw_up σ 101 1 d1)) _
              refine jw_W_n 2 (i' := 30) (ls' := [some (.inr (.inr 13)), some (.inl m), some (.inl r2), some (.inl (jw_or 0 (jw_shl 1 d1))), some (.inl 0), some (.inl d2)]) (st' := [.inl d2, .inl 0, .inr (.inr 101)]) rfl ?_
              refine jw_W_is rfl (by omega) rfl (by omega) (by omega) (by omega) ?_
              refine jw_W_n 5 (i' := 36) (ls' := [some (.inr (.inr 13)), some (.inl m), some (.inl r2), some (.inl (jw_or 0 (jw_shl 1 d1))), some (.inl 0), some (.inl d2)]) (st' := [.inl (jw_or (jw_or 0 (jw_shl 1 d1)) (jw_shl 1 d2))]) rfl ?_
              have hs2 := jn_s2 (a := d1) (b := d2) (by omega) (by omega)
              have he2 := jn_e2 (a := d1) (b := d2) (by omega) (by omega)
              refine jw_W_n 4 (i' := 11) (ls' := [some (.inr (.inr 13)), some (.inl m), some (.inl r2), some (.inl (jw_or (jw_or 0 (jw_shl 1 d1)) (jw_shl 1 d2))), some (.inl ((-1))), some (.inl d2)]) (st' := [.inl ((-1))]) rfl ?_
              refine jw_W_if rfl (by unfold jw_rg; omega) (fun hc5 => ?_) (fun hc5 => ?_)
              · clear hc5
                refine jw_W_n 1 (i' := 40) (ls' := [some (.inr (.inr 13)), some (.inl m), some (.inl r2), some (.inl (jw_or (jw_or 0 (jw_shl 1 d1)) (jw_shl 1 d2))), some (.inl ((-1))), some (.inl d2)]) (st' := [.inr (.inr 13)]) rfl ?_
                refine jw_W_gf rfl rfl rfl ?_
                show jw_W (js_S n) _ md_130 41 [some (.inr (.inr 13)), some (.inl m), some (.inl r2), some (.inl (jw_or (jw_or 0 (jw_shl 1 d1)) (jw_shl 1 d2))), some (.inl ((-1))), some (.inl d2)] [.inr (.inr ((σ 13 2).toNat))] ((jw_up (jw_up σ 101 1 d1) 101 0 d2)) _
                rw [hto]
                refine jw_W_gf rfl hp.2.1 rfl ?_
                show jw_W (js_S n) _ md_130 42 [some (.inr (.inr 13)), some (.inl m), some (.inl r2), some (.inl (jw_or (jw_or 0 (jw_shl 1 d1)) (jw_shl 1 d2))), some (.inl ((-1))), some (.inl d2)] [.inl ((jw_up (jw_up σ 101 1 d1) 101 0 d2) o 1)] ((jw_up (jw_up σ 101 1 d1) 101 0 d2)) _
                rw [show ((jw_up (jw_up σ 101 1 d1) 101 0 d2) o 1 : Int) = 2 from by rw [jw_up_out _ _ _ (by omega), jw_up_out _ _ _ (by omega), hW]]
                refine jw_W_if rfl (by unfold jw_rg; omega) (fun hc6 => ?_) (fun hc6 => ?_)
                · exact absurd hc6 (show ¬ ((2 : Int) ≤ 0) by omega)
                · clear hc6
                  refine jw_W_n 1 (i' := 44) (ls' := [some (.inr (.inr 13)), some (.inl m), some (.inl r2), some (.inl (jw_or (jw_or 0 (jw_shl 1 d1)) (jw_shl 1 d2))), some (.inl ((-1))), some (.inl d2)]) (st' := [.inl r2]) rfl ?_
                  refine jw_W_if rfl (by unfold jw_rg; omega) (fun hc7 => ?_) (fun hc7 => ?_)
                  · have hc7 : r2 ≠ 0 := hc7
                    refine jw_W_n 1 (i' := 53) (ls' := [some (.inr (.inr 13)), some (.inl m), some (.inl r2), some (.inl (jw_or (jw_or 0 (jw_shl 1 d1)) (jw_shl 1 d2))), some (.inl ((-1))), some (.inl d2)]) (st' := [.inl 0]) rfl ?_
                    refine jw_W_ir rfl ?_
                    refine ⟨_, rfl, jx_fy_up (jx_fy_up (jx_fy_rf σ) (by omega)) (by omega), .inr ⟨rfl, fun hh => ?_⟩⟩
                    unfold jn_okW at hh
                    omega
                  · have hc7 : r2 = 0 := Classical.not_not.mp hc7
                    refine jw_W_n 2 (i' := 47) (ls' := [some (.inr (.inr 13)), some (.inl m), some (.inl r2), some (.inl (jw_or (jw_or 0 (jw_shl 1 d1)) (jw_shl 1 d2))), some (.inl ((-1))), some (.inl d2)]) (st' := [.inr (.inr 13), .inl (jw_or (jw_or 0 (jw_shl 1 d1)) (jw_shl 1 d2))]) rfl ?_
                    refine jw_W_gf rfl rfl rfl ?_
                    show jw_W (js_S n) _ md_130 48 [some (.inr (.inr 13)), some (.inl m), some (.inl r2), some (.inl (jw_or (jw_or 0 (jw_shl 1 d1)) (jw_shl 1 d2))), some (.inl ((-1))), some (.inl d2)] [.inr (.inr ((σ 13 2).toNat)), .inl (jw_or (jw_or 0 (jw_shl 1 d1)) (jw_shl 1 d2))] ((jw_up (jw_up σ 101 1 d1) 101 0 d2)) _
                    rw [hto]
                    refine jw_W_call (as := [.inr (.inr o)]) (rest := [.inl (jw_or (jw_or 0 (jw_shl 1 d1)) (jw_shl 1 d2))]) rfl rfl rfl rfl (Nat.le_of_ble_eq_true rfl) (.inr (jx_rc hp.2.1)) (jx_everyWish hp) (by omega) ?_ rfl
                    rintro r1 σz ⟨rfl, hs⟩
                    rw [hs, show jw_shl 1 (((jw_up (jw_up σ 101 1 d1) 101 0 d2) : jw_H) o 1) - 1 = 3 by rw [show ((jw_up (jw_up σ 101 1 d1) 101 0 d2) : jw_H) o 1 = 2 from by rw [jw_up_out _ _ _ (by omega), jw_up_out _ _ _ (by omega), show (σ : jw_H) o 1 = 2 from hW]]; decide +kernel]
                    show jw_W (js_S n) _ md_130 49 [some (.inr (.inr 13)), some (.inl m), some (.inl r2), some (.inl (jw_or (jw_or 0 (jw_shl 1 d1)) (jw_shl 1 d2))), some (.inl ((-1))), some (.inl d2)] [.inl 3, .inl (jw_or (jw_or 0 (jw_shl 1 d1)) (jw_shl 1 d2))] ((jw_up (jw_up σ 101 1 d1) 101 0 d2)) _
                    refine jw_W_ic rfl (by unfold jw_rg; omega) (by unfold jw_rg; omega) (fun hc8 => ?_) (fun hc8 => ?_)
                    · have hc8 : (jw_or (jw_or 0 (jw_shl 1 d1)) (jw_shl 1 d2)) ≠ 3 := hc8
                      refine jw_W_n 1 (i' := 53) (ls' := [some (.inr (.inr 13)), some (.inl m), some (.inl r2), some (.inl (jw_or (jw_or 0 (jw_shl 1 d1)) (jw_shl 1 d2))), some (.inl ((-1))), some (.inl d2)]) (st' := [.inl 0]) rfl ?_
                      refine jw_W_ir rfl ?_
                      refine ⟨_, rfl, jx_fy_up (jx_fy_up (jx_fy_rf σ) (by omega)) (by omega), .inr ⟨rfl, fun hh => ?_⟩⟩
                      unfold jn_okW at hh
                      omega
                    · have hc8 : (jw_or (jw_or 0 (jw_shl 1 d1)) (jw_shl 1 d2)) = 3 := Classical.not_not.mp hc8
                      refine jw_W_n 2 (i' := 53) (ls' := [some (.inr (.inr 13)), some (.inl m), some (.inl r2), some (.inl (jw_or (jw_or 0 (jw_shl 1 d1)) (jw_shl 1 d2))), some (.inl ((-1))), some (.inl d2)]) (st' := [.inl 1]) rfl ?_
                      refine jw_W_ir rfl ?_
                      refine ⟨_, rfl, jx_fy_up (jx_fy_up (jx_fy_rf σ) (by omega)) (by omega), .inl ⟨rfl, ?_, ?_⟩⟩
                      · unfold jn_okW
                        omega
                      · unfold jn_pls
                        refine .inr (.inl ⟨rfl, ?_, ?_⟩)
                        · rw [jw_up_eq]
                          omega
                        · rw [jw_up_ne _ (by omega), jw_up_eq]
                          omega
              · exact absurd hc5 (show ¬ ¬ ((((-1 : Int))) < 0) by omega)
            · exact absurd hc4 (show ¬ ¬ ((1 : Int) ≠ 0) by omega)
          · rw [hs]
            have hwd2 : ¬ (0 ≤ d2 ∧ d2 < σ 103 4) := hwd2
            show jw_W (js_S n) _ md_130 23 [some (.inr (.inr 13)), some (.inl m), some (.inl r2), some (.inl (jw_or 0 (jw_shl 1 d1))), some (.inl 0), some (.inl d2)] [.inl 0] ((jw_up σ 101 1 d1)) _
            refine jw_W_if rfl (by unfold jw_rg; omega) (fun hc9 => ?_) (fun hc9 => ?_)
            · exact absurd hc9 (show ¬ ((0 : Int) ≠ 0) by omega)
            · clear hc9
              refine jw_W_n 1 (i' := 25) (ls' := [some (.inr (.inr 13)), some (.inl m), some (.inl r2), some (.inl (jw_or 0 (jw_shl 1 d1))), some (.inl 0), some (.inl d2)]) (st' := [.inl 0]) rfl ?_
              refine jw_W_ir rfl ?_
              refine ⟨_, rfl, jx_fy_up (jx_fy_rf σ) (by omega), .inr ⟨rfl, fun hh => ?_⟩⟩
              unfold jn_okW at hh
              omega
      · exact absurd hc2 (show ¬ ¬ ((1 : Int) ≠ 0) by omega)
    · rw [hs]
      have hwd1 : ¬ (0 ≤ d1 ∧ d1 < σ 103 4) := hwd1
      show jw_W (js_S n) _ md_130 23 [some (.inr (.inr 13)), some (.inl m), some (.inl r1), some (.inl 0), some (.inl 1), some (.inl d1)] [.inl 0] σ _
      refine jw_W_if rfl (by unfold jw_rg; omega) (fun hc10 => ?_) (fun hc10 => ?_)
      · exact absurd hc10 (show ¬ ((0 : Int) ≠ 0) by omega)
      · clear hc10
        refine jw_W_n 1 (i' := 25) (ls' := [some (.inr (.inr 13)), some (.inl m), some (.inl r1), some (.inl 0), some (.inl 1), some (.inl d1)]) (st' := [.inl 0]) rfl ?_
        refine jw_W_ir rfl ?_
        refine ⟨_, rfl, jx_fy_rf σ, .inr ⟨rfl, fun hh => ?_⟩⟩
        unfold jn_okW at hh
        omega
theorem jx_readOrder_3 {n : Nat} {σ : jw_H} {o : Nat} {C : List (ge_R × Int)} (hK : jx_K n o C σ) (hW4 : σ 103 4 = 3) {m : Int} (hm : jw_rg m) : jw_T (js_S n) 2 130 [.inr (.inr 13), .inl m] σ (fun r σ' => ∃ v, r = some (.inl v) ∧ jx_fy σ σ' ∧ ((v = 1 ∧ jn_okW 3 m ∧ jn_pls σ' 3 m) ∨ (v = 0 ∧ ¬ jn_okW 3 m))) := by
  refine jw_T_of (D := 1) (M := mm_130) rfl (Nat.le_of_ble_eq_true rfl) (ls0 := [some (.inr (.inr 13)), some (.inl m), none, none, none, none]) rfl ?_ (by rintro _ _ ⟨v, rfl, -, ⟨rfl, -⟩ | ⟨rfl, -⟩⟩ <;> rfl)
  have hI := hK.1
  obtain ⟨hto, hfo, hp, hP, e0, e1, e2, hPm, hcb, c0, p0, -⟩ := jx_I0_x hI
  have ho := hp.1
  have hq := hP.1
  have hw := hP.2.1
  have hq2 := hP.2.2.1
  have hcn := hcb.1
  have hW : σ o 1 = 3 := by rw [e1, hW4]
  obtain ⟨r1, d1, ed1, er1, em1, rg1, sg1⟩ := jn_dm hm
  obtain ⟨r2, d2, ed2, er2, em2, rg2, sg2⟩ := jn_dm rg1
  obtain ⟨r3, d3, ed3, er3, em3, rg3, sg3⟩ := jn_dm rg2
  have rhm := hm
  unfold jw_rg at rhm
  have rrg1 := rg1
  unfold jw_rg at rrg1
  have rrg2 := rg2
  unfold jw_rg at rrg2
  have rrg3 := rg3
  unfold jw_rg at rrg3
  refine jw_W_n 5 (i' := 5) (ls' := [some (.inr (.inr 13)), some (.inl m), some (.inl m), some (.inl 0), none, none]) (st' := [.inr (.inr 13)]) rfl ?_
  refine jw_W_gf rfl rfl rfl ?_
  show jw_W (js_S n) _ md_130 6 [some (.inr (.inr 13)), some (.inl m), some (.inl m), some (.inl 0), none, none] [.inr (.inr ((σ 13 2).toNat))] σ _
  rw [hto]
  refine jw_W_gf rfl hp.2.1 rfl ?_
  show jw_W (js_S n) _ md_130 7 [some (.inr (.inr 13)), some (.inl m), some (.inl m), some (.inl 0), none, none] [.inl (σ o 1)] σ _
  rw [show (σ o 1 : Int) = 3 from by rw [hW]]
  refine jw_W_n 4 (i' := 11) (ls' := [some (.inr (.inr 13)), some (.inl m), some (.inl m), some (.inl 0), some (.inl 2), none]) (st' := [.inl 2]) rfl ?_
  refine jw_W_if rfl (by unfold jw_rg; omega) (fun hc1 => ?_) (fun hc1 => ?_)
  · exact absurd hc1 (show ¬ ((2 : Int) < 0) by omega)
  · clear hc1
    refine jw_W_n 2 (i' := 14) (ls' := [some (.inr (.inr 13)), some (.inl m), some (.inl m), some (.inl 0), some (.inl 2), none]) (st' := [.inl 10, .inl m]) rfl ?_
    refine jw_W_irem rfl (by unfold jw_rg; omega) (by omega) ?_
    rw [ed1]
    refine jw_W_n 3 (i' := 18) (ls' := [some (.inr (.inr 13)), some (.inl m), some (.inl m), some (.inl 0), some (.inl 2), some (.inl d1)]) (st' := [.inl 10, .inl m]) rfl ?_
    refine jw_W_idiv rfl (by unfold jw_rg; omega) (by omega) ?_
    rw [er1]
    refine jw_W_n 3 (i' := 22) (ls' := [some (.inr (.inr 13)), some (.inl m), some (.inl r1), some (.inl 0), some (.inl 2), some (.inl d1)]) (st' := [.inl d1, .inr (.inr 13)]) rfl ?_
    refine jw_W_call (as := [.inr (.inr 13), .inl d1]) (rest := []) rfl rfl rfl rfl (Nat.le_of_ble_eq_true rfl) (.inr rfl) (jx_isWish (jx_K_y (jx_fy_rf σ) hK) (by unfold jw_rg; omega)) (by omega) ?_ rfl
    rintro r1 σz (⟨rfl, hs, hwd1⟩ | ⟨rfl, hs, hwd1⟩)
    · rw [hs]
      have hwd1 : 0 ≤ d1 ∧ d1 < σ 103 4 := hwd1
      show jw_W (js_S n) _ md_130 23 [some (.inr (.inr 13)), some (.inl m), some (.inl r1), some (.inl 0), some (.inl 2), some (.inl d1)] [.inl 1] σ _
      refine jw_W_if rfl (by unfold jw_rg; omega) (fun hc2 => ?_) (fun hc2 => ?_)
      · clear hc2
        refine jw_W_n 1 (i' := 27) (ls' := [some (.inr (.inr 13)), some (.inl m), some (.inl r1), some (.inl 0), some (.inl 2), some (.inl d1)]) (st' := [.inr (.inr 13)]) rfl ?_
        refine jw_W_gf rfl rfl rfl ?_
        show jw_W (js_S n) _ md_130 28 [some (.inr (.inr 13)), some (.inl m), some (.inl r1), some (.inl 0), some (.inl 2), some (.inl d1)] [.inr (.inr 101)] σ _
        refine jw_W_n 2 (i' := 30) (ls' := [some (.inr (.inr 13)), some (.inl m), some (.inl r1), some (.inl 0), some (.inl 2), some (.inl d1)]) (st' := [.inl d1, .inl 2, .inr (.inr 101)]) rfl ?_
        refine jw_W_is rfl (by omega) rfl (by omega) (by omega) (by omega) ?_
        refine jw_W_n 5 (i' := 36) (ls' := [some (.inr (.inr 13)), some (.inl m), some (.inl r1), some (.inl 0), some (.inl 2), some (.inl d1)]) (st' := [.inl (jw_or 0 (jw_shl 1 d1))]) rfl ?_
        have hs1 := jn_s1 (a := d1) (by omega)
        refine jw_W_n 4 (i' := 11) (ls' := [some (.inr (.inr 13)), some (.inl m), some (.inl r1), some (.inl (jw_or 0 (jw_shl 1 d1))), some (.inl 1), some (.inl d1)]) (st' := [.inl 1]) rfl ?_
        refine jw_W_if rfl (by unfold jw_rg; omega) (fun hc3 => ?_) (fun hc3 => ?_)
        · exact absurd hc3 (show ¬ ((1 : Int) < 0) by omega)
        · clear hc3
          refine jw_W_n 2 (i' := 14) (ls' := [some (.inr (.inr 13)), some (.inl m), some (.inl r1), some (.inl (jw_or 0 (jw_shl 1 d1))), some (.inl 1), some (.inl d1)]) (st' := [.inl 10, .inl r1]) rfl ?_
          refine jw_W_irem rfl (by unfold jw_rg; omega) (by omega) ?_
          rw [ed2]
          refine jw_W_n 3 (i' := 18) (ls' := [some (.inr (.inr 13)), some (.inl m), some (.inl r1), some (.inl (jw_or 0 (jw_shl 1 d1))), some (.inl 1), some (.inl d2)]) (st' := [.inl 10, .inl r1]) rfl ?_
          refine jw_W_idiv rfl (by unfold jw_rg; omega) (by omega) ?_
          rw [er2]
          refine jw_W_n 3 (i' := 22) (ls' := [some (.inr (.inr 13)), some (.inl m), some (.inl r2), some (.inl (jw_or 0 (jw_shl 1 d1))), some (.inl 1), some (.inl d2)]) (st' := [.inl d2, .inr (.inr 13)]) rfl ?_
          refine jw_W_call (as := [.inr (.inr 13), .inl d2]) (rest := []) rfl rfl rfl rfl (Nat.le_of_ble_eq_true rfl) (.inr rfl) (jx_isWish (jx_K_y (jx_fy_up (jx_fy_rf σ) (by omega)) hK) (by unfold jw_rg; omega)) (by omega) ?_ rfl
          rintro r1 σz (⟨rfl, hs, hwd2⟩ | ⟨rfl, hs, hwd2⟩)
          · rw [hs]
            have hwd2 : 0 ≤ d2 ∧ d2 < σ 103 4 := hwd2
            show jw_W (js_S n) _ md_130 23 [some (.inr (.inr 13)), some (.inl m), some (.inl r2), some (.inl (jw_or 0 (jw_shl 1 d1))), some (.inl 1), some (.inl d2)] [.inl 1] ((jw_up σ 101 2 d1)) _
            refine jw_W_if rfl (by unfold jw_rg; omega) (fun hc4 => ?_) (fun hc4 => ?_)
            · clear hc4
              refine jw_W_n 1 (i' := 27) (ls' := [some (.inr (.inr 13)), some (.inl m), some (.inl r2), some (.inl (jw_or 0 (jw_shl 1 d1))), some (.inl 1), some (.inl d2)]) (st' := [.inr (.inr 13)]) rfl ?_
              refine jw_W_gf rfl rfl rfl ?_
              show jw_W (js_S n) _ md_130 28 [some (.inr (.inr 13)), some (.inl m), some (.inl r2), some (.inl (jw_or 0 (jw_shl 1 d1))), some (.inl 1), some (.inl d2)] [.inr (.inr 101)] ((jw_up σ 101 2 d1)) _
              refine jw_W_n 2 (i' := 30) (ls' := [some (.inr (.inr 13)), some (.inl m), some (.inl r2), some (.inl (jw_or 0 (jw_shl 1 d1))), some (.inl 1), some (.inl d2)]) (st' := [.inl d2, .inl 1, .inr (.inr 101)]) rfl ?_
              refine jw_W_is rfl (by omega) rfl (by omega) (by omega) (by omega) ?_
              refine jw_W_n 5 (i' := 36) (ls' := [some (.inr (.inr 13)), some (.inl m), some (.inl r2), some (.inl (jw_or 0 (jw_shl 1 d1))), some (.inl 1), some (.inl d2)]) (st' := [.inl (jw_or (jw_or 0 (jw_shl 1 d1)) (jw_shl 1 d2))]) rfl ?_
              have hs2 := jn_s2 (a := d1) (b := d2) (by omega) (by omega)
              refine jw_W_n 4 (i' := 11) (ls' := [some (.inr (.inr 13)), some (.inl m), some (.inl r2), some (.inl (jw_or (jw_or 0 (jw_shl 1 d1)) (jw_shl 1 d2))), some (.inl 0), some (.inl d2)]) (st' := [.inl 0]) rfl ?_
              refine jw_W_if rfl (by unfold jw_rg; omega) (fun hc5 => ?_) (fun hc5 => ?_)
              · exact absurd hc5 (show ¬ ((0 : Int) < 0) by omega)
              · clear hc5
                refine jw_W_n 2 (i' := 14) (ls' := [some (.inr (.inr 13)), some (.inl m), some (.inl r2), some (.inl (jw_or (jw_or 0 (jw_shl 1 d1)) (jw_shl 1 d2))), some (.inl 0), some (.inl d2)]) (st' := [.inl 10, .inl r2]) rfl ?_
                refine jw_W_irem rfl (by unfold jw_rg; omega) (by omega) ?_
                rw [ed3]
                refine jw_W_n 3 (i' := 18) (ls' := [some (.inr (.inr 13)), some (.inl m), some (.inl r2), some (.inl (jw_or (jw_or 0 (jw_shl 1 d1)) (jw_shl 1 d2))), some (.inl 0), some (.inl d3)]) (st' := [.inl 10, .inl r2]) rfl ?_
                refine jw_W_idiv rfl (by unfold jw_rg; omega) (by omega) ?_
                rw [er3]
                refine jw_W_n 3 (i' := 22) (ls' := [some (.inr (.inr 13)), some (.inl m), some (.inl r3), some (.inl (jw_or (jw_or 0 (jw_shl 1 d1)) (jw_shl 1 d2))), some (.inl 0), some (.inl d3)]) (st' := [.inl d3, .inr (.inr 13)]) rfl ?_
                refine jw_W_call (as := [.inr (.inr 13), .inl d3]) (rest := []) rfl rfl rfl rfl (Nat.le_of_ble_eq_true rfl) (.inr rfl) (jx_isWish (jx_K_y (jx_fy_up (jx_fy_up (jx_fy_rf σ) (by omega)) (by omega)) hK) (by unfold jw_rg; omega)) (by omega) ?_ rfl
                rintro r1 σz (⟨rfl, hs, hwd3⟩ | ⟨rfl, hs, hwd3⟩)
                · rw [hs]
                  have hwd3 : 0 ≤ d3 ∧ d3 < σ 103 4 := hwd3
                  show jw_W (js_S n) _ md_130 23 [some (.inr (.inr 13)), some (.inl m), some (.inl r3), some (.inl (jw_or (jw_or 0 (jw_shl 1 d1)) (jw_shl 1 d2))), some (.inl 0), some (.inl d3)] [.inl 1] ((jw_up (jw_up σ 101 2 d1) 101 1 d2)) _
                  refine jw_W_if rfl (by unfold jw_rg; omega) (fun hc6 => ?_) (fun hc6 => ?_)
                  · clear hc6
                    refine jw_W_n 1 (i' := 27) (ls' := [some (.inr (.inr 13)), some (.inl m), some (.inl r3), some (.inl (jw_or (jw_or 0 (jw_shl 1 d1)) (jw_shl 1 d2))), some (.inl 0), some (.inl d3)]) (st' := [.inr (.inr 13)]) rfl ?_
                    refine jw_W_gf rfl rfl rfl ?_
                    show jw_W (js_S n) _ md_130 28 [some (.inr (.inr 13)), some (.inl m), some (.inl r3), some (.inl (jw_or (jw_or 0 (jw_shl 1 d1)) (jw_shl 1 d2))), some (.inl 0), some (.inl d3)] [.inr (.inr 101)] ((jw_up (jw_up σ 101 2 d1) 101 1 d2)) _
                    refine jw_W_n 2 (i' := 30) (ls' := [some (.inr (.inr 13)), some (.inl m), some (.inl r3), some (.inl (jw_or (jw_or 0 (jw_shl 1 d1)) (jw_shl 1 d2))), some (.inl 0), some (.inl d3)]) (st' := [.inl d3, .inl 0, .inr (.inr 101)]) rfl ?_
                    refine jw_W_is rfl (by omega) rfl (by omega) (by omega) (by omega) ?_
                    refine jw_W_n 5 (i' := 36) (ls' := [some (.inr (.inr 13)), some (.inl m), some (.inl r3), some (.inl (jw_or (jw_or 0 (jw_shl 1 d1)) (jw_shl 1 d2))), some (.inl 0), some (.inl d3)]) (st' := [.inl (jw_or (jw_or (jw_or 0 (jw_shl 1 d1)) (jw_shl 1 d2)) (jw_shl 1 d3))]) rfl ?_
                    have hs3 := jn_s3 (a := d1) (b := d2) (c := d3) (by omega) (by omega) (by omega)
                    refine jw_W_n 4 (i' := 11) (ls' := [some (.inr (.inr 13)), some (.inl m), some (.inl r3), some (.inl (jw_or (jw_or (jw_or 0 (jw_shl 1 d1)) (jw_shl 1 d2)) (jw_shl 1 d3))), some (.inl ((-1))), some (.inl d3)]) (st' := [.inl ((-1))]) rfl ?_
                    refine jw_W_if rfl (by unfold jw_rg; omega) (fun hc7 => ?_) (fun hc7 => ?_)
                    · clear hc7
                      refine jw_W_n 1 (i' := 40) (ls' := [some (.inr (.inr 13)), some (.inl m), some (.inl r3), some (.inl (jw_or (jw_or (jw_or 0 (jw_shl 1 d1)) (jw_shl 1 d2)) (jw_shl 1 d3))), some (.inl ((-1))), some (.inl d3)]) (st' := [.inr (.inr 13)]) rfl ?_
                      refine jw_W_gf rfl rfl rfl ?_
                      show jw_W (js_S n) _ md_130 41 [some (.inr (.inr 13)), some (.inl m), some (.inl r3), some (.inl (jw_or (jw_or (jw_or 0 (jw_shl 1 d1)) (jw_shl 1 d2)) (jw_shl 1 d3))), some (.inl ((-1))), some (.inl d3)] [.inr (.inr ((σ 13 2).toNat))] ((jw_up (jw_up (jw_up σ 101 2 d1) 101 1 d2) 101 0 d3)) _
                      rw [hto]
                      refine jw_W_gf rfl hp.2.1 rfl ?_
                      show jw_W (js_S n) _ md_130 42 [some (.inr (.inr 13)), some (.inl m), some (.inl r3), some (.inl (jw_or (jw_or (jw_or 0 (jw_shl 1 d1)) (jw_shl 1 d2)) (jw_shl 1 d3))), some (.inl ((-1))), some (.inl d3)] [.inl ((jw_up (jw_up (jw_up σ 101 2 d1) 101 1 d2) 101 0 d3) o 1)] ((jw_up (jw_up (jw_up σ 101 2 d1) 101 1 d2) 101 0 d3)) _
                      rw [show ((jw_up (jw_up (jw_up σ 101 2 d1) 101 1 d2) 101 0 d3) o 1 : Int) = 3 from by rw [jw_up_out _ _ _ (by omega), jw_up_out _ _ _ (by omega), jw_up_out _ _ _ (by omega), hW]]
                      refine jw_W_if rfl (by unfold jw_rg; omega) (fun hc8 => ?_) (fun hc8 => ?_)
                      · exact absurd hc8 (show ¬ ((3 : Int) ≤ 0) by omega)
                      · clear hc8
                        refine jw_W_n 1 (i' := 44) (ls' := [some (.inr (.inr 13)), some (.inl m), some (.inl r3), some (.inl (jw_or (jw_or (jw_or 0 (jw_shl 1 d1)) (jw_shl 1 d2)) (jw_shl 1 d3))), some (.inl ((-1))), some (.inl d3)]) (st' := [.inl r3]) rfl ?_
                        refine jw_W_if rfl (by unfold jw_rg; omega) (fun hc9 => ?_) (fun hc9 => ?_)
                        · have hc9 : r3 ≠ 0 := hc9
                          refine jw_W_n 1 (i' := 53) (ls' := [some (.inr (.inr 13)), some (.inl m), some (.inl r3), some (.inl (jw_or (jw_or (jw_or 0 (jw_shl 1 d1)) (jw_shl 1 d2)) (jw_shl 1 d3))), some (.inl ((-1))), some (.inl d3)]) (st' := [.inl 0]) rfl ?_
                          refine jw_W_ir rfl ?_
                          refine ⟨_, rfl, jx_fy_up (jx_fy_up (jx_fy_up (jx_fy_rf σ) (by omega)) (by omega)) (by omega), .inr ⟨rfl, fun hh => ?_⟩⟩
                          unfold jn_okW at hh
                          omega
                        · have hc9 : r3 = 0 := Classical.not_not.mp hc9
                          refine jw_W_n 2 (i' := 47) (ls' := [some (.inr (.inr 13)), some (.inl m), some (.inl r3), some (.inl (jw_or (jw_or (jw_or 0 (jw_shl 1 d1)) (jw_shl 1 d2)) (jw_shl 1 d3))), some (.inl ((-1))), some (.inl d3)]) (st' := [.inr (.inr 13), .inl (jw_or (jw_or (jw_or 0 (jw_shl 1 d1)) (jw_shl 1 d2)) (jw_shl 1 d3))]) rfl ?_
                          refine jw_W_gf rfl rfl rfl ?_
                          show jw_W (js_S n) _ md_130 48 [some (.inr (.inr 13)), some (.inl m), some (.inl r3), some (.inl (jw_or (jw_or (jw_or 0 (jw_shl 1 d1)) (jw_shl 1 d2)) (jw_shl 1 d3))), some (.inl ((-1))), some (.inl d3)] [.inr (.inr ((σ 13 2).toNat)), .inl (jw_or (jw_or (jw_or 0 (jw_shl 1 d1)) (jw_shl 1 d2)) (jw_shl 1 d3))] ((jw_up (jw_up (jw_up σ 101 2 d1) 101 1 d2) 101 0 d3)) _
                          rw [hto]
                          refine jw_W_call (as := [.inr (.inr o)]) (rest := [.inl (jw_or (jw_or (jw_or 0 (jw_shl 1 d1)) (jw_shl 1 d2)) (jw_shl 1 d3))]) rfl rfl rfl rfl (Nat.le_of_ble_eq_true rfl) (.inr (jx_rc hp.2.1)) (jx_everyWish hp) (by omega) ?_ rfl
                          rintro r1 σz ⟨rfl, hs⟩
                          rw [hs, show jw_shl 1 (((jw_up (jw_up (jw_up σ 101 2 d1) 101 1 d2) 101 0 d3) : jw_H) o 1) - 1 = 7 by rw [show ((jw_up (jw_up (jw_up σ 101 2 d1) 101 1 d2) 101 0 d3) : jw_H) o 1 = 3 from by rw [jw_up_out _ _ _ (by omega), jw_up_out _ _ _ (by omega), jw_up_out _ _ _ (by omega), show (σ : jw_H) o 1 = 3 from hW]]; decide +kernel]
                          show jw_W (js_S n) _ md_130 49 [some (.inr (.inr 13)), some (.inl m), some (.inl r3), some (.inl (jw_or (jw_or (jw_or 0 (jw_shl 1 d1)) (jw_shl 1 d2)) (jw_shl 1 d3))), some (.inl ((-1))), some (.inl d3)] [.inl 7, .inl (jw_or (jw_or (jw_or 0 (jw_shl 1 d1)) (jw_shl 1 d2)) (jw_shl 1 d3))] ((jw_up (jw_up (jw_up σ 101 2 d1) 101 1 d2) 101 0 d3)) _
                          refine jw_W_ic rfl (by unfold jw_rg; omega) (by unfold jw_rg; omega) (fun hc10 => ?_) (fun hc10 => ?_)
                          · have hc10 : (jw_or (jw_or (jw_or 0 (jw_shl 1 d1)) (jw_shl 1 d2)) (jw_shl 1 d3)) ≠ 7 := hc10
                            refine jw_W_n 1 (i' := 53) (ls' := [some (.inr (.inr 13)), some (.inl m), some (.inl r3), some (.inl (jw_or (jw_or (jw_or 0 (jw_shl 1 d1)) (jw_shl 1 d2)) (jw_shl 1 d3))), some (.inl ((-1))), some (.inl d3)]) (st' := [.inl 0]) rfl ?_
                            refine jw_W_ir rfl ?_
                            refine ⟨_, rfl, jx_fy_up (jx_fy_up (jx_fy_up (jx_fy_rf σ) (by omega)) (by omega)) (by omega), .inr ⟨rfl, fun hh => ?_⟩⟩
                            unfold jn_okW at hh
                            omega
                          · have hc10 : (jw_or (jw_or (jw_or 0 (jw_shl 1 d1)) (jw_shl 1 d2)) (jw_shl 1 d3)) = 7 := Classical.not_not.mp hc10
                            refine jw_W_n 2 (i' := 53) (ls' := [some (.inr (.inr 13)), some (.inl m), some (.inl r3), some (.inl (jw_or (jw_or (jw_or 0 (jw_shl 1 d1)) (jw_shl 1 d2)) (jw_shl 1 d3))), some (.inl ((-1))), some (.inl d3)]) (st' := [.inl 1]) rfl ?_
                            refine jw_W_ir rfl ?_
                            refine ⟨_, rfl, jx_fy_up (jx_fy_up (jx_fy_up (jx_fy_rf σ) (by omega)) (by omega)) (by omega), .inl ⟨rfl, ?_, ?_⟩⟩
                            · unfold jn_okW
                              omega
                            · unfold jn_pls
                              refine .inr (.inr ⟨rfl, ?_, ?_, ?_⟩)
                              · rw [jw_up_eq]
                                omega
                              · rw [jw_up_ne _ (by omega), jw_up_eq]
                                omega
                              · rw [jw_up_ne _ (by omega), jw_up_ne _ (by omega), jw_up_eq]
                                omega
                    · exact absurd hc7 (show ¬ ¬ ((((-1 : Int))) < 0) by omega)
                  · exact absurd hc6 (show ¬ ¬ ((1 : Int) ≠ 0) by omega)
                · rw [hs]
                  have hwd3 : ¬ (0 ≤ d3 ∧ d3 < σ 103 4) := hwd3
                  show jw_W (js_S n) _ md_130 23 [some (.inr (.inr 13)), some (.inl m), some (.inl r3), some (.inl (jw_or (jw_or 0 (jw_shl 1 d1)) (jw_shl 1 d2))), some (.inl 0), some (.inl d3)] [.inl 0] ((jw_up (jw_up σ 101 2 d1) 101 1 d2)) _
                  refine jw_W_if rfl (by unfold jw_rg; omega) (fun hc11 => ?_) (fun hc11 => ?_)
                  · exact absurd hc11 (show ¬ ((0 : Int) ≠ 0) by omega)
                  · clear hc11
                    refine jw_W_n 1 (i' := 25) (ls' := [some (.inr (.inr 13)), some (.inl m), some (.inl r3), some (.inl (jw_or (jw_or 0 (jw_shl 1 d1)) (jw_shl 1 d2))), some (.inl 0), some (.inl d3)]) (st' := [.inl 0]) rfl ?_
                    refine jw_W_ir rfl ?_
                    refine ⟨_, rfl, jx_fy_up (jx_fy_up (jx_fy_rf σ) (by omega)) (by omega), .inr ⟨rfl, fun hh => ?_⟩⟩
                    unfold jn_okW at hh
                    omega
            · exact absurd hc4 (show ¬ ¬ ((1 : Int) ≠ 0) by omega)
          · rw [hs]
            have hwd2 : ¬ (0 ≤ d2 ∧ d2 < σ 103 4) := hwd2
            show jw_W (js_S n) _ md_130 23 [some (.inr (.inr 13)), some (.inl m), some (.inl r2), some (.inl (jw_or 0 (jw_shl 1 d1))), some (.inl 1), some (.inl d2)] [.inl 0] ((jw_up σ 101 2 d1)) _
            refine jw_W_if rfl (by unfold jw_rg; omega) (fun hc12 => ?_) (fun hc12 => ?_)
            · exact absurd hc12 (show ¬ ((0 : Int) ≠ 0) by omega)
            · clear hc12
              refine jw_W_n 1 (i' := 25) (ls' := [some (.inr (.inr 13)), some (.inl m), some (.inl r2), some (.inl (jw_or 0 (jw_shl 1 d1))), some (.inl 1), some (.inl d2)]) (st' := [.inl 0]) rfl ?_
              refine jw_W_ir rfl ?_
              refine ⟨_, rfl, jx_fy_up (jx_fy_rf σ) (by omega), .inr ⟨rfl, fun hh => ?_⟩⟩
              unfold jn_okW at hh
              omega
      · exact absurd hc2 (show ¬ ¬ ((1 : Int) ≠ 0) by omega)
    · rw [hs]
      have hwd1 : ¬ (0 ≤ d1 ∧ d1 < σ 103 4) := hwd1
      show jw_W (js_S n) _ md_130 23 [some (.inr (.inr 13)), some (.inl m), some (.inl r1), some (.inl 0), some (.inl 2), some (.inl d1)] [.inl 0] σ _
      refine jw_W_if rfl (by unfold jw_rg; omega) (fun hc13 => ?_) (fun hc13 => ?_)
      · exact absurd hc13 (show ¬ ((0 : Int) ≠ 0) by omega)
      · clear hc13
        refine jw_W_n 1 (i' := 25) (ls' := [some (.inr (.inr 13)), some (.inl m), some (.inl r1), some (.inl 0), some (.inl 2), some (.inl d1)]) (st' := [.inl 0]) rfl ?_
        refine jw_W_ir rfl ?_
        refine ⟨_, rfl, jx_fy_rf σ, .inr ⟨rfl, fun hh => ?_⟩⟩
        unfold jn_okW at hh
        omega
theorem jx_readOrder {n o : Nat} {C : List (ge_R × Int)} {σ : jw_H} (hK : jx_K n o C σ) {m : Int} (hm : jw_rg m) : jw_T (js_S n) 2 130 [.inr (.inr 13), .inl m] σ (fun r σ' => ∃ v, r = some (.inl v) ∧ jx_fy σ σ' ∧ ((v = 1 ∧ jn_okW (σ 103 4) m ∧ jn_pls σ' (σ 103 4) m) ∨ (v = 0 ∧ ¬ jn_okW (σ 103 4) m))) := by
  have hw := hK.2.1.1.1.2.1
  rcases (show σ 103 4 = 0 ∨ σ 103 4 = 1 ∨ σ 103 4 = 2 ∨ σ 103 4 = 3 by omega) with h | h | h | h
  · rw [h]
    exact jx_readOrder_0 hK h hm
  · rw [h]
    exact jx_readOrder_1 hK h hm
  · rw [h]
    exact jx_readOrder_2 hK h hm
  · rw [h]
    exact jx_readOrder_3 hK h hm

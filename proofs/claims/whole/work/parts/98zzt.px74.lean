/-! ===== turn: the class ===== -/
theorem jn_mw_ng (σ : jw_H) (w i j : Int) : jm_mw σ w j i = -jm_mw σ w i j := by
  unfold jm_mw
  omega
theorem jn_fr_ng {u l : Int} (h : l ≠ 0) : jx_fr u l = jx_fr (-u) (-l) := by
  unfold jx_fr
  rw [Int.gcd_neg, Int.neg_gcd]
  have h1 := Int.gcd_dvd_left u l
  have h2 := Int.gcd_dvd_right u l
  have e1 : -u / (Int.gcd u l : Int) = -(u / (Int.gcd u l : Int)) := Int.neg_ediv_of_dvd h1
  have e2 : -l / (Int.gcd u l : Int) = -(l / (Int.gcd u l : Int)) := Int.neg_ediv_of_dvd h2
  by_cases hl : l < 0
  · rw [if_pos hl, if_neg (by omega), e1, e2]
  · rw [if_neg hl, if_pos (by omega), e1, e2, Int.neg_neg, Int.neg_neg]
/-- the share at which two corners have as much -/
theorem jn_share {A B : Int} (hA : -4251528 ≤ A ∧ A ≤ 4251528) (hB : -4251528 ≤ B ∧ B ≤ 4251528) (hs : (0 < A ∧ B < 0) ∨ (A < 0 ∧ 0 < B)) : (0 < (jx_fr B (B - A)).2 ∧ (jx_fr B (B - A)).2 ≤ 9000000) ∧ (jx_fr B (B - A)).1 * A + ((jx_fr B (B - A)).2 - (jx_fr B (B - A)).1) * B = 0 ∧ jx_fr (jx_fr B (B - A)).1 (jx_fr B (B - A)).2 = jx_fr B (B - A) := by
  by_cases h : 0 < B - A
  · obtain ⟨g, g0, e1, e2⟩ := jx_fr_gl (u := B) h
    have h1 := jx_fr_pos (u := B) (l := B - A) (by omega)
    have h2 := jx_fr_le (u := B) h
    refine ⟨by omega, ?_, jx_fr_id h⟩
    generalize jx_fr B (B - A) = s at *
    have : s.1 * A + (s.2 - s.1) * B = s.2 * B - s.1 * (B - A) := by grind
    rw [this, e2]
    have : s.2 * B = s.2 * (s.1 * g) := by rw [← e1]
    rw [this]
    grind
  · have en := jn_fr_ng (u := B) (l := B - A) (by omega)
    have hp : 0 < -(B - A) := by omega
    obtain ⟨g, g0, e1, e2⟩ := jx_fr_gl (u := -B) hp
    have h1 := jx_fr_pos (u := -B) (l := -(B - A)) (by omega)
    have h2 := jx_fr_le (u := -B) hp
    rw [en]
    refine ⟨by omega, ?_, jx_fr_id hp⟩
    generalize jx_fr (-B) (-(B - A)) = s at *
    have : s.1 * A + (s.2 - s.1) * B = s.1 * -(B - A) - s.2 * -B := by grind
    rw [this, e2]
    have : s.2 * -B = s.2 * (s.1 * g) := by rw [← e1]
    rw [this]
    grind
theorem jn_share_eq {A B u l : Int} (l0 : 0 < l) (hr : jx_fr u l = (u, l)) (ht : u * A + (l - u) * B = 0) (hs : (0 < A ∧ B < 0) ∨ (A < 0 ∧ 0 < B)) : jx_fr B (B - A) = (u, l) := by
  rw [← hr]
  by_cases h : 0 < B - A
  · exact jx_fr_eq h l0 (by grind)
  · rw [jn_fr_ng (u := B) (l := B - A) (by omega)]
    exact jx_fr_eq (by omega) l0 (by grind)
theorem jn_best_tr {σ : jw_H} (hcb : jm_cbd σ) {c d u l : Int} (c0 : 0 ≤ c) (c1 : c < σ 103 56) (d0 : 0 ≤ d) (d1 : d < σ 103 56) (h : jn_inI (jm_mw σ 0 c) (jm_mw σ 1 c) (σ 103 56).toNat u l) (ht : u * jm_mw σ 0 c d + (l - u) * jm_mw σ 1 c d = 0) : jn_inI (jm_mw σ 0 d) (jm_mw σ 1 d) (σ 103 56).toNat u l := by
  intro k k0 k1
  have h1 := h k k0 k1
  have wc := jm_cw hcb c0 c1
  have wd := jm_cw hcb d0 d1
  unfold jm_mw at *
  generalize ge_f (jm_W σ 0) (jm_ct σ c) = p0 at *
  generalize ge_f (jm_W σ 1) (jm_ct σ c) = p1 at *
  generalize ge_f (jm_W σ 0) (jm_ct σ d) = q0 at *
  generalize ge_f (jm_W σ 1) (jm_ct σ d) = q1 at *
  generalize ge_f (jm_W σ 0) (jm_ct σ k) = r0 at *
  generalize ge_f (jm_W σ 1) (jm_ct σ k) = r1 at *
  generalize σ 135 c = x at *
  generalize σ 135 d = y at *
  generalize σ 135 k = z at *
  have h2 := Int.mul_nonneg (Int.le_of_lt wd) h1
  have e : y * (u * (p0 * z - r0 * x) + (l - u) * (p1 * z - r1 * x)) = x * (u * (q0 * z - r0 * y) + (l - u) * (q1 * z - r1 * y)) := by grind
  rw [e] at h2
  exact Int.nonneg_of_mul_nonneg_right h2 wc
/-- a pair whose share is kept, if it is a turn -/
def jn_cv (σ : jw_H) (L : List (Int × Int)) (a b : Int) : Prop := ((0 < jm_mw σ 0 b a ∧ jm_mw σ 1 b a < 0) ∨ (jm_mw σ 0 b a < 0 ∧ 0 < jm_mw σ 1 b a)) → jn_inI (jm_mw σ 0 a) (jm_mw σ 1 a) (σ 103 56).toNat (jx_fr (jm_mw σ 1 b a) (jm_mw σ 1 b a - jm_mw σ 0 b a)).1 (jx_fr (jm_mw σ 1 b a) (jm_mw σ 1 b a - jm_mw σ 0 b a)).2 → jx_fr (jm_mw σ 1 b a) (jm_mw σ 1 b a - jm_mw σ 0 b a) ∈ L
def jn_tq (σ : jw_H) (L : List (Int × Int)) : Prop := L.Pairwise jn_lt ∧ ∀ y ∈ L, jn_sm y ∧ jn_isT σ y
theorem jn_tq_len {σ : jw_H} {L : List (Int × Int)} (hn : σ 103 56 ≤ 20) (h : jn_tq σ L) : L.length < 64 := by
  have := jn_T_len h.1 (fun y hy => ⟨(h.2 y hy).1.2.1, (h.2 y hy).2.2.2⟩)
  omega
theorem jn_tq_TL {σ : jw_H} (hcb : jm_cbd σ) {L : List (Int × Int)} (h : jn_tq σ L) (hc : ∀ a b, 0 ≤ a → a < b → b < σ 103 56 → jn_cv σ L a b) : jn_TL σ L := by
  refine ⟨h.1, fun y => ⟨fun hy => (h.2 y hy).2, ?_⟩⟩
  rintro ⟨y0, hr, c, hc1, hin, d, hd, ht, hs⟩
  have hn := hcb.1
  have hcd : c ≠ d := by
    intro e
    rw [e] at hs
    have : ∀ w, jm_mw σ w d d = 0 := fun w => by unfold jm_mw; omega
    rw [this, this] at hs
    omega
  rcases (show c < d ∨ d < c by omega) with hlt | hlt
  · have e0 := jn_mw_ng σ 0 c d
    have e1 := jn_mw_ng σ 1 c d
    have es : jx_fr (jm_mw σ 1 d c) (jm_mw σ 1 d c - jm_mw σ 0 d c) = (y.1, y.2) := by
      refine jn_share_eq y0 hr ?_ (by omega)
      rw [e0, e1]
      have : y.1 * -jm_mw σ 0 c d + (y.2 - y.1) * -jm_mw σ 1 c d = -(y.1 * jm_mw σ 0 c d + (y.2 - y.1) * jm_mw σ 1 c d) := by grind
      rw [this, ht]
      rfl
    have h2 := hc c d hc1.1 hlt (by omega) (by omega)
    rw [es] at h2
    exact h2 hin
  · have es : jx_fr (jm_mw σ 1 c d) (jm_mw σ 1 c d - jm_mw σ 0 c d) = (y.1, y.2) := jn_share_eq y0 hr ht hs
    have h2 := hc d c hd.1 hlt hc1.2 hs
    rw [es] at h2
    exact h2 (jn_best_tr hcb hc1.1 hc1.2 hd.1 (by omega) hin ht)
theorem jx_isBest_loop {n : Nat} {σ : jw_H} {D : Nat} (hD : 2 ≤ D) {o : Nat} {C : List (ge_R × Int)} (hI : jx_I0 n σ o C) {i u l : Int} (i0 : 0 ≤ i) (i1 : i < σ 103 56) (hu : σ 97 0 = u) (hl : σ 97 1 = l) (hx : jn_sm (u, l)) (hul : u ≤ l) (h2 : σ 103 4 = 2) : ∀ (f : Nat) {j : Int} {v5 v6 : Option jw_V}, 0 ≤ j → j + f = σ 103 56 → (∀ c, 0 ≤ c → c < j → 0 ≤ u * jm_mw σ 0 i c + (l - u) * jm_mw σ 1 i c) → jw_W (js_S n) D md_92 6 [some (.inr (.inr 92)), some (.inr (.inr 57)), some (.inl i), some (.inr (.inr (o + 1))), some (.inl j), v5, v6] [] σ (fun r σ' => (r = some (.inl 1) ∧ σ' = σ ∧ (jn_inI (jm_mw σ 0 i) (jm_mw σ 1 i) (σ 103 56).toNat u l)) ∨ (r = some (.inl 0) ∧ σ' = σ ∧ ¬ (jn_inI (jm_mw σ 0 i) (jm_mw σ 1 i) (σ 103 56).toNat u l)))
  | f, j, v5, v6, j0, hk, H => by
    have ih : ∀ {v5' v6' : Option jw_V}, j < σ 103 56 → (∀ c, 0 ≤ c → c < j + 1 → 0 ≤ u * jm_mw σ 0 i c + (l - u) * jm_mw σ 1 i c) → jw_W (js_S n) D md_92 6 [some (.inr (.inr 92)), some (.inr (.inr 57)), some (.inl i), some (.inr (.inr (o + 1))), some (.inl (j + 1)), v5', v6'] [] σ (fun r σ' => (r = some (.inl 1) ∧ σ' = σ ∧ (jn_inI (jm_mw σ 0 i) (jm_mw σ 1 i) (σ 103 56).toNat u l)) ∨ (r = some (.inl 0) ∧ σ' = σ ∧ ¬ (jn_inI (jm_mw σ 0 i) (jm_mw σ 1 i) (σ 103 56).toNat u l))) := by
      intro v5' v6' h1 h3
      match f, hk with
      | 0, hk => omega
      | f + 1, hk => exact jx_isBest_loop hD hI i0 i1 hu hl hx hul h2 f (by omega) (by omega) h3
    unfold jn_sm at hx
    simp only at hx
    obtain ⟨hto, hfo, hp, hP, e0, e1, e2, hPm, hcb, c0, p0, -⟩ := jx_I0_x hI
    have ho := hp.1
    have hq := hP.1
    have hw := hP.2.1
    have hq2 := hP.2.2.1
    have hcn := hcb.1
    refine jw_W_n 2 (i' := 8) (ls' := [some (.inr (.inr 92)), some (.inr (.inr 57)), some (.inl i), some (.inr (.inr (o + 1))), some (.inl j), v5, v6]) (st' := [.inr (.inr 57), .inl j]) rfl ?_
    refine jw_W_gf rfl rfl rfl ?_
    show jw_W (js_S n) _ md_92 9 [some (.inr (.inr 92)), some (.inr (.inr 57)), some (.inl i), some (.inr (.inr (o + 1))), some (.inl j), v5, v6] [.inl (σ 57 0), .inl j] σ _
    refine jw_W_ic rfl (by unfold jw_rg; omega) (by unfold jw_rg; omega) (fun hc1 => ?_) (fun hc1 => ?_)
    · have hc1 : j ≥ (σ 57 0) := hc1
      refine jw_W_n 1 (i' := 47) (ls' := [some (.inr (.inr 92)), some (.inr (.inr 57)), some (.inl i), some (.inr (.inr (o + 1))), some (.inl j), v5, v6]) (st' := [.inl 1]) rfl ?_
      refine jw_W_ir rfl ?_
      have hkl : j = σ 103 56 := by omega
      subst hkl
      exact .inl ⟨rfl, rfl, fun c c0 c1 => H c c0 (by omega)⟩
    · have hc1 : ¬ (j ≥ (σ 57 0)) := hc1
      refine jw_W_n 1 (i' := 11) (ls' := [some (.inr (.inr 92)), some (.inr (.inr 57)), some (.inl i), some (.inr (.inr (o + 1))), some (.inl j), v5, v6]) (st' := [.inr (.inr 92)]) rfl ?_
      refine jw_W_gf rfl rfl rfl ?_
      show jw_W (js_S n) _ md_92 12 [some (.inr (.inr 92)), some (.inr (.inr 57)), some (.inl i), some (.inr (.inr (o + 1))), some (.inl j), v5, v6] [.inr (.inr 97)] σ _
      refine jw_W_gf rfl rfl rfl ?_
      show jw_W (js_S n) _ md_92 13 [some (.inr (.inr 92)), some (.inr (.inr 57)), some (.inl i), some (.inr (.inr (o + 1))), some (.inl j), v5, v6] [.inr (.inl (σ 97 0))] σ _
      rw [hu]
      refine jw_W_n 1 (i' := 14) (ls' := [some (.inr (.inr 92)), some (.inr (.inr 57)), some (.inl i), some (.inr (.inr (o + 1))), some (.inl j), v5, v6]) (st' := [.inr (.inr 57), .inr (.inl u)]) rfl ?_
      refine jw_W_gf rfl rfl rfl ?_
      show jw_W (js_S n) _ md_92 15 [some (.inr (.inr 92)), some (.inr (.inr 57)), some (.inl i), some (.inr (.inr (o + 1))), some (.inl j), v5, v6] [.inr (.inr 58), .inr (.inl u)] σ _
      refine jw_W_n 4 (i' := 19) (ls' := [some (.inr (.inr 92)), some (.inr (.inr 57)), some (.inl i), some (.inr (.inr (o + 1))), some (.inl j), v5, v6]) (st' := [.inl 0, .inr (.inr (o + 1)), .inl j, .inl i, .inr (.inr 58), .inr (.inl u)]) rfl ?_
      refine jw_W_call (as := [.inr (.inr 58), .inl i, .inl j, .inr (.inr (o + 1)), .inl 0]) (rest := [.inr (.inl u)]) rfl rfl rfl rfl (Nat.le_of_ble_eq_true rfl) (.inr rfl) (jx_chM hI (i := j) (j := i) (w := 0) j0 (by omega) i0 i1 (by omega) (by omega)) (by omega) ?_ rfl
      rintro r1 σz ⟨rfl, hs⟩
      rw [hs]
      have hb0 := jm_mw_bd hPm hcb (w := 0) (i := j) (j := i) (by omega) (by omega) j0 (by omega) i0 i1
      show jw_W (js_S n) _ md_92 20 [some (.inr (.inr 92)), some (.inr (.inr 57)), some (.inl i), some (.inr (.inr (o + 1))), some (.inl j), v5, v6] [.inr (.inl (jm_mw σ 0 j i)), .inr (.inl u)] σ _
      refine jw_W_n 2 (i' := 22) (ls' := [some (.inr (.inr 92)), some (.inr (.inr 57)), some (.inl i), some (.inr (.inr (o + 1))), some (.inl j), v5, v6]) (st' := [.inr (.inr 92), .inr (.inl (u * (jm_mw σ 0 j i)))]) rfl ?_
      refine jw_W_gf rfl rfl rfl ?_
      show jw_W (js_S n) _ md_92 23 [some (.inr (.inr 92)), some (.inr (.inr 57)), some (.inl i), some (.inr (.inr (o + 1))), some (.inl j), v5, v6] [.inr (.inr 97), .inr (.inl (u * (jm_mw σ 0 j i)))] σ _
      refine jw_W_gf rfl rfl rfl ?_
      show jw_W (js_S n) _ md_92 24 [some (.inr (.inr 92)), some (.inr (.inr 57)), some (.inl i), some (.inr (.inr (o + 1))), some (.inl j), v5, v6] [.inr (.inl (σ 97 1)), .inr (.inl (u * (jm_mw σ 0 j i)))] σ _
      rw [hl]
      refine jw_W_n 1 (i' := 25) (ls' := [some (.inr (.inr 92)), some (.inr (.inr 57)), some (.inl i), some (.inr (.inr (o + 1))), some (.inl j), v5, v6]) (st' := [.inr (.inr 92), .inr (.inl l), .inr (.inl (u * (jm_mw σ 0 j i)))]) rfl ?_
      refine jw_W_gf rfl rfl rfl ?_
      show jw_W (js_S n) _ md_92 26 [some (.inr (.inr 92)), some (.inr (.inr 57)), some (.inl i), some (.inr (.inr (o + 1))), some (.inl j), v5, v6] [.inr (.inr 97), .inr (.inl l), .inr (.inl (u * (jm_mw σ 0 j i)))] σ _
      refine jw_W_gf rfl rfl rfl ?_
      show jw_W (js_S n) _ md_92 27 [some (.inr (.inr 92)), some (.inr (.inr 57)), some (.inl i), some (.inr (.inr (o + 1))), some (.inl j), v5, v6] [.inr (.inl (σ 97 0)), .inr (.inl l), .inr (.inl (u * (jm_mw σ 0 j i)))] σ _
      rw [hu]
      refine jw_W_n 2 (i' := 29) (ls' := [some (.inr (.inr 92)), some (.inr (.inr 57)), some (.inl i), some (.inr (.inr (o + 1))), some (.inl j), v5, v6]) (st' := [.inr (.inr 57), .inr (.inl (l - u)), .inr (.inl (u * (jm_mw σ 0 j i)))]) rfl ?_
      refine jw_W_gf rfl rfl rfl ?_
      show jw_W (js_S n) _ md_92 30 [some (.inr (.inr 92)), some (.inr (.inr 57)), some (.inl i), some (.inr (.inr (o + 1))), some (.inl j), v5, v6] [.inr (.inr 58), .inr (.inl (l - u)), .inr (.inl (u * (jm_mw σ 0 j i)))] σ _
      refine jw_W_n 4 (i' := 34) (ls' := [some (.inr (.inr 92)), some (.inr (.inr 57)), some (.inl i), some (.inr (.inr (o + 1))), some (.inl j), v5, v6]) (st' := [.inl 3, .inr (.inr (o + 1)), .inl j, .inl i, .inr (.inr 58), .inr (.inl (l - u)), .inr (.inl (u * (jm_mw σ 0 j i)))]) rfl ?_
      refine jw_W_call (as := [.inr (.inr 58), .inl i, .inl j, .inr (.inr (o + 1)), .inl 3]) (rest := [.inr (.inl (l - u)), .inr (.inl (u * (jm_mw σ 0 j i)))]) rfl rfl rfl rfl (Nat.le_of_ble_eq_true rfl) (.inr rfl) (jx_chM hI (i := j) (j := i) (w := 1) j0 (by omega) i0 i1 (by omega) (by omega)) (by omega) ?_ rfl
      rintro r1 σz ⟨rfl, hs⟩
      rw [hs]
      have hb1 := jm_mw_bd hPm hcb (w := 1) (i := j) (j := i) (by omega) (by omega) j0 (by omega) i0 i1
      show jw_W (js_S n) _ md_92 35 [some (.inr (.inr 92)), some (.inr (.inr 57)), some (.inl i), some (.inr (.inr (o + 1))), some (.inl j), v5, v6] [.inr (.inl (jm_mw σ 1 j i)), .inr (.inl (l - u)), .inr (.inl (u * (jm_mw σ 0 j i)))] σ _
      refine jw_W_n 1 (i' := 36) (ls' := [some (.inr (.inr 92)), some (.inr (.inr 57)), some (.inl i), some (.inr (.inr (o + 1))), some (.inl j), v5, v6]) (st' := [.inr (.inl ((l - u) * (jm_mw σ 1 j i))), .inr (.inl (u * (jm_mw σ 0 j i)))]) rfl ?_
      have m0 := jx_mulb (x := u) (y := jm_mw σ 0 j i) (A := 9000000) (B := 4251528) (by omega) hb0 (by omega)
      have m1 := jx_mulb (x := l - u) (y := jm_mw σ 1 j i) (A := 9000000) (B := 4251528) (by omega) hb1 (by omega)
      refine jw_W_n 4 (i' := 40) (ls' := [some (.inr (.inr 92)), some (.inr (.inr 57)), some (.inl i), some (.inr (.inr (o + 1))), some (.inl j), some (.inr (.inl ((u * (jm_mw σ 0 j i)) + ((l - u) * (jm_mw σ 1 j i))))), none]) (st' := [.inr (.inl 0), .inr (.inl ((u * (jm_mw σ 0 j i)) + ((l - u) * (jm_mw σ 1 j i))))]) rfl ?_
      refine jw_W_lc rfl rfl (by unfold jw_rgl; omega) (by unfold jw_rgl; omega) (fun hc2 => ?_) (fun hc2 => ?_)
      · have hc2 : ((u * (jm_mw σ 0 j i)) + ((l - u) * (jm_mw σ 1 j i))) ≤ 0 := hc2
        refine jw_W_n 2 (i' := 6) (ls' := [some (.inr (.inr 92)), some (.inr (.inr 57)), some (.inl i), some (.inr (.inr (o + 1))), some (.inl (j + 1)), some (.inr (.inl ((u * (jm_mw σ 0 j i)) + ((l - u) * (jm_mw σ 1 j i))))), none]) (st' := []) rfl ?_
        refine ih (by omega) (fun c c0 c1 => ?_)
        by_cases ec : c = j
        · rw [ec]
          rw [jn_mw_ng σ 0 i j, jn_mw_ng σ 1 i j, Int.mul_neg, Int.mul_neg] at hc2
          omega
        · exact H c c0 (by omega)
      · have hc2 : ¬ (((u * (jm_mw σ 0 j i)) + ((l - u) * (jm_mw σ 1 j i))) ≤ 0) := hc2
        refine jw_W_n 1 (i' := 43) (ls' := [some (.inr (.inr 92)), some (.inr (.inr 57)), some (.inl i), some (.inr (.inr (o + 1))), some (.inl j), some (.inr (.inl ((u * (jm_mw σ 0 j i)) + ((l - u) * (jm_mw σ 1 j i))))), none]) (st' := [.inl 0]) rfl ?_
        refine jw_W_ir rfl ?_
        refine .inr ⟨rfl, rfl, fun hh => ?_⟩
        have h3 := hh j j0 (by omega)
        rw [jn_mw_ng σ 0 i j, jn_mw_ng σ 1 i j, Int.mul_neg, Int.mul_neg] at hc2
        omega
theorem jx_isBest {n : Nat} {σ : jw_H} {o : Nat} {C : List (ge_R × Int)} (hI : jx_I0 n σ o C) {i u l : Int} (i0 : 0 ≤ i) (i1 : i < σ 103 56) (hu : σ 97 0 = u) (hl : σ 97 1 = l) (hx : jn_sm (u, l)) (hul : u ≤ l) (h2 : σ 103 4 = 2)  : jw_T (js_S n) 3 92 [.inr (.inr 92), .inr (.inr 57), .inl i] σ (fun r σ' => (r = some (.inl 1) ∧ σ' = σ ∧ (jn_inI (jm_mw σ 0 i) (jm_mw σ 1 i) (σ 103 56).toNat u l)) ∨ (r = some (.inl 0) ∧ σ' = σ ∧ ¬ (jn_inI (jm_mw σ 0 i) (jm_mw σ 1 i) (σ 103 56).toNat u l))) := by
  refine jw_T_of (D := 2) (M := mm_92) rfl (Nat.le_of_ble_eq_true rfl) (ls0 := [some (.inr (.inr 92)), some (.inr (.inr 57)), some (.inl i), none, none, none, none]) rfl ?_ (by rintro _ _ (⟨rfl, -⟩ | ⟨rfl, -⟩) <;> rfl)
  obtain ⟨hto, hfo, hp, hP, e0, e1, e2, hPm, hcb, c0, p0, -⟩ := jx_I0_x hI
  have ho := hp.1
  have hq := hP.1
  have hw := hP.2.1
  have hq2 := hP.2.2.1
  have hcn := hcb.1
  refine jw_W_n 1 (i' := 1) (ls' := [some (.inr (.inr 92)), some (.inr (.inr 57)), some (.inl i), none, none, none, none]) (st' := [.inr (.inr 57)]) rfl ?_
  refine jw_W_gf rfl rfl rfl ?_
  show jw_W (js_S n) _ md_92 2 [some (.inr (.inr 92)), some (.inr (.inr 57)), some (.inl i), none, none, none, none] [.inr (.inr ((σ 57 6).toNat))] σ _
  rw [hfo]
  refine jw_W_gf rfl hp.2.1 rfl ?_
  show jw_W (js_S n) _ md_92 3 [some (.inr (.inr 92)), some (.inr (.inr 57)), some (.inl i), none, none, none, none] [.inr (.inr (o + 1))] σ _
  refine jw_W_n 3 (i' := 6) (ls' := [some (.inr (.inr 92)), some (.inr (.inr 57)), some (.inl i), some (.inr (.inr (o + 1))), some (.inl 0), none, none]) (st' := []) rfl ?_
  exact jx_isBest_loop (D := 2) (by omega) hI i0 i1 hu hl hx hul h2 (σ 103 56).toNat (j := 0) (by omega) (by omega) (fun c c0 c1 => by omega)

/-! ===== weights ===== -/
/-- how much more of a wish a corner has than another, over both lower numbers -/
def jm_mw (σ : jw_H) (w i j : Int) : Int := ge_f (jm_W σ w) (jm_ct σ i) * σ 135 j - ge_f (jm_W σ w) (jm_ct σ j) * σ 135 i
theorem jm_mw_bd {σ : jw_H} {w i j : Int} (hP : jm_Pb σ) (hb : jm_cbd σ) (w0 : 0 ≤ w) (w1 : w < σ 103 4) (i0 : 0 ≤ i) (i1 : i < σ 103 56) (j0 : 0 ≤ j) (j1 : j < σ 103 56) : -4251528 ≤ jm_mw σ w i j ∧ jm_mw σ w i j ≤ 4251528 := by
  have h1 := jm_f_w hP hb w0 w1 i0 i1 j0 j1
  have h2 := jm_f_w hP hb w0 w1 j0 j1 i0 i1
  unfold jm_mw
  omega
theorem jm_mw_me {σ0 σ : jw_H} (h : jx_me σ0 σ) (w i : Int) : jm_mw σ w i = jm_mw σ0 w i := by
  funext j
  unfold jm_mw jm_W
  rw [jx_me_ct h, jx_me_ct h, h 104 (by omega), h 135 (by omega)]
theorem jx_mulb {x y A B : Int} (hx : -A ≤ x ∧ x ≤ A) (hy : -B ≤ y ∧ y ≤ B) (h : A * B ≤ 4600000000000000000) : -(4600000000000000000) ≤ x * y ∧ x * y ≤ 4600000000000000000 := by
  have h1 : (x * y).natAbs ≤ (A * B).natAbs := by
    rw [Int.natAbs_mul, Int.natAbs_mul]
    exact Nat.mul_le_mul (by omega) (by omega)
  have h2 : 0 ≤ A * B := Int.mul_nonneg (by omega) (by omega)
  omega
/-- fractions, by their cross products -/
theorem jx_fle {a b c d e f : Int} (hb : 0 < b) (hd : 0 < d) (hf : 0 < f) (h1 : a * d ≤ c * b) (h2 : c * f ≤ e * d) : a * f ≤ e * b := by
  refine Int.le_of_mul_le_mul_right ?_ hd
  have g1 := Int.mul_le_mul_of_nonneg_right h1 (Int.le_of_lt hf)
  have g2 := Int.mul_le_mul_of_nonneg_right h2 (Int.le_of_lt hb)
  have e1 : a * f * d = a * d * f := Int.mul_right_comm ..
  have e2 : c * b * f = c * f * b := Int.mul_right_comm ..
  have e3 : e * d * b = e * b * d := Int.mul_right_comm ..
  omega
theorem jx_fr_gl {u l : Int} (h : 0 < l) : ∃ g, 0 < g ∧ u = (jx_fr u l).1 * g ∧ l = (jx_fr u l).2 * g := by
  refine ⟨(Int.gcd u l : Int), ?_, ?_, ?_⟩
  · have := Int.gcd_pos_of_ne_zero_right u (b := l) (by omega)
    omega
  · unfold jx_fr
    rw [if_neg (by omega)]
    exact (Int.ediv_mul_cancel (Int.gcd_dvd_left ..)).symm
  · unfold jx_fr
    rw [if_neg (by omega)]
    exact (Int.ediv_mul_cancel (Int.gcd_dvd_right ..)).symm
theorem jx_fr_lt {u l a b : Int} (h : 0 < l) : (jx_fr u l).1 * b < a * (jx_fr u l).2 ↔ u * b < a * l := by
  obtain ⟨g, g0, e1, e2⟩ := jx_fr_gl (u := u) h
  have q1 : u * b = (jx_fr u l).1 * b * g := by
    conv => lhs; rw [e1]
    exact Int.mul_right_comm ..
  have q2 : a * l = a * (jx_fr u l).2 * g := by
    conv => lhs; rw [e2]
    exact (Int.mul_assoc ..).symm
  rw [q1, q2]
  exact ⟨fun h => Int.mul_lt_mul_of_pos_right h g0, fun h => Int.lt_of_mul_lt_mul_right h (Int.le_of_lt g0)⟩
theorem jx_fr_eq {a b c d : Int} (hb : 0 < b) (hd : 0 < d) (h : a * d = c * b) : jx_fr a b = jx_fr c d := by
  have eg : d * (Int.gcd a b : Int) = b * (Int.gcd c d : Int) := by
    have h1 := Int.gcd_mul_right (m := a) (n := d) (k := b)
    have h2 := Int.gcd_mul_right (m := c) (n := b) (k := d)
    rw [h, Int.mul_comm b d, h2] at h1
    have h3 : d.natAbs = d := by omega
    have h4 : b.natAbs = b := by omega
    have h5 : ((Int.gcd c d * b.natAbs : Nat) : Int) = ((Int.gcd a b * d.natAbs : Nat) : Int) := by rw [h1]
    rw [Int.natCast_mul, Int.natCast_mul, h3, h4] at h5
    rw [Int.mul_comm, ← h5, Int.mul_comm]
  have ga := Int.gcd_pos_of_ne_zero_right a (b := b) (by omega)
  have gc := Int.gcd_pos_of_ne_zero_right c (b := d) (by omega)
  obtain ⟨x, ex⟩ := Int.gcd_dvd_left (a := a) (b := b)
  obtain ⟨y, ey⟩ := Int.gcd_dvd_right (a := a) (b := b)
  obtain ⟨z, ez⟩ := Int.gcd_dvd_left (a := c) (b := d)
  obtain ⟨w, ew⟩ := Int.gcd_dvd_right (a := c) (b := d)
  generalize hG : (Int.gcd a b : Int) = G at *
  generalize hH : (Int.gcd c d : Int) = H at *
  have G0 : 0 < G := by omega
  have H0 : 0 < H := by omega
  have eyw : y = w := by
    have h1 : G * (H * w) = G * (H * y) := by
      have : H * w * G = G * y * H := by rw [← ew, ← ey]; exact eg
      rw [Int.mul_comm G (H * w), this, Int.mul_assoc, Int.mul_comm y H]
    have h2 := Int.eq_of_mul_eq_mul_left (by omega) h1
    exact (Int.eq_of_mul_eq_mul_left (by omega) h2).symm
  have w0 : 0 < w := by
    rw [ew] at hd
    exact Int.lt_of_mul_lt_mul_left (a := H) (by rw [Int.mul_zero]; exact hd) (Int.le_of_lt H0)
  have exz : x = z := by
    rw [ex, ez, ey, ew, eyw] at h
    have h1 : (G * H * w) * x = (G * H * w) * z := by
      have e1 : G * x * (H * w) = G * H * w * x := by
        rw [Int.mul_assoc G x, Int.mul_left_comm x H w, ← Int.mul_assoc G H, Int.mul_comm x w, ← Int.mul_assoc]
      have e2 : H * z * (G * w) = G * H * w * z := by
        rw [Int.mul_assoc H z, Int.mul_left_comm z G w, Int.mul_left_comm H G, ← Int.mul_assoc G H, Int.mul_comm z w, ← Int.mul_assoc]
      rw [← e1, ← e2]
      exact h
    refine Int.eq_of_mul_eq_mul_left ?_ h1
    exact Int.ne_of_gt (Int.mul_pos (Int.mul_pos G0 H0) w0)
  have d1 : a / G = x := by rw [ex, Int.mul_ediv_cancel_left _ (by omega)]
  have d2 : b / G = y := by rw [ey, Int.mul_ediv_cancel_left _ (by omega)]
  have d3 : c / H = z := by rw [ez, Int.mul_ediv_cancel_left _ (by omega)]
  have d4 : d / H = w := by rw [ew, Int.mul_ediv_cancel_left _ (by omega)]
  unfold jx_fr
  rw [if_neg (by omega), if_neg (by omega), hG, hH, d1, d2, d3, d4, exz, eyw]
/-- the least and the greatest share, so far -/
def jm_st (a b : Int) (s : Int × Int × Int × Int) : Int × Int × Int × Int :=
  if 0 < a - b then (if s.1 * (a - b) < -b * s.2.1 then (-b, a - b, s.2.2.1, s.2.2.2) else s)
  else if a - b < 0 then (if b * s.2.2.2 < s.2.2.1 * -(a - b) then (s.1, s.2.1, b, -(a - b)) else s) else s
def jm_sh (A B : Int → Int) : Nat → Int × Int × Int × Int
  | 0 => (0, 1, 1, 1)
  | j + 1 => jm_st (A j) (B j) (jm_sh A B j)
def jm_sb (s : Int × Int × Int × Int) : Prop := (-9000000 ≤ s.1 ∧ s.1 ≤ 9000000) ∧ (0 < s.2.1 ∧ s.2.1 ≤ 9000000) ∧ (-9000000 ≤ s.2.2.1 ∧ s.2.2.1 ≤ 9000000) ∧ (0 < s.2.2.2 ∧ s.2.2.2 ≤ 9000000)
theorem jm_st_sb {a b : Int} {s : Int × Int × Int × Int} (ha : -4251528 ≤ a ∧ a ≤ 4251528) (hb : -4251528 ≤ b ∧ b ≤ 4251528) (h : jm_sb s) : jm_sb (jm_st a b s) := by
  obtain ⟨s1, s2, s3, s4⟩ := s
  unfold jm_sb at h
  unfold jm_st
  dsimp only at *
  split
  · split
    · unfold jm_sb
      dsimp only
      omega
    · exact h
  · split
    · split
      · unfold jm_sb
        dsimp only
        omega
      · exact h
    · exact h
theorem jm_sh_sb {A B : Int → Int} : ∀ {j : Nat}, (∀ c : Int, 0 ≤ c → c < j → (-4251528 ≤ A c ∧ A c ≤ 4251528) ∧ (-4251528 ≤ B c ∧ B c ≤ 4251528)) → jm_sb (jm_sh A B j)
  | 0, _ => by unfold jm_sb jm_sh; dsimp only; omega
  | j + 1, h => by
    have h1 := h j (by omega) (by omega)
    exact jm_st_sb h1.1 h1.2 (jm_sh_sb (fun c c0 c1 => h c c0 (by omega)))
/-- the least is at most the greatest -/
def jm_le (s : Int × Int × Int × Int) : Prop := s.1 * s.2.2.2 ≤ s.2.2.1 * s.2.1
theorem jm_st_le {a b : Int} {s : Int × Int × Int × Int} (h : jm_sb s) (hl : jm_le (jm_st a b s)) : jm_le s := by
  obtain ⟨s1, s2, s3, s4⟩ := s
  unfold jm_sb at h
  unfold jm_st at hl
  dsimp only at *
  unfold jm_le
  dsimp only
  split at hl
  · rename_i hd
    split at hl
    · rename_i h1
      unfold jm_le at hl
      dsimp only at hl
      exact jx_fle (by omega) hd (by omega) (Int.le_of_lt h1) hl
    · exact hl
  · split at hl
    · rename_i hd
      split at hl
      · rename_i h1
        unfold jm_le at hl
        dsimp only at hl
        exact jx_fle (by omega) (d := -(a - b)) (by omega) (by omega) hl (Int.le_of_lt h1)
      · exact hl
    · exact hl
/-- some share is left after so many corners -/
def jm_hs (A B : Int → Int) (j : Int) : Prop := (∀ c, 0 ≤ c → c < j → A c = B c → 0 ≤ B c) ∧ jm_le (jm_sh A B j.toNat)
def jm_sok (a b : Int) (s : Int × Int × Int × Int) : Prop := (a = b → 0 ≤ b) ∧ (a ≠ b → jm_le (jm_st a b s))
theorem jm_hs_s {A B : Int → Int} {j : Int} (j0 : 0 ≤ j) (hb : jm_sb (jm_sh A B j.toNat)) : jm_hs A B (j + 1) ↔ jm_hs A B j ∧ jm_sok (A j) (B j) (jm_sh A B j.toNat) := by
  have e : (j + 1).toNat = j.toNat + 1 := by omega
  have es : jm_sh A B (j + 1).toNat = jm_st (A j) (B j) (jm_sh A B j.toNat) := by
    rw [e]
    show jm_st (A (j.toNat : Nat)) (B (j.toNat : Nat)) _ = _
    rw [Int.toNat_of_nonneg j0]
  unfold jm_hs jm_sok
  rw [es]
  constructor
  · rintro ⟨h1, h2⟩
    exact ⟨⟨fun c c0 c1 => h1 c c0 (by omega), jm_st_le hb h2⟩, h1 j j0 (by omega), fun _ => h2⟩
  · rintro ⟨⟨h1, h2⟩, h3, h4⟩
    refine ⟨fun c c0 c1 => ?_, ?_⟩
    · by_cases ec : c = j
      · rw [ec]
        exact h3
      · exact h1 c c0 (by omega)
    · by_cases ea : A j = B j
      · unfold jm_st
        rw [if_neg (by omega), if_neg (by omega)]
        exact h2
      · exact h4 ea
theorem jm_hs_le {A B : Int → Int} {m : Int} (hb : ∀ j, 0 ≤ j → j ≤ m → jm_sb (jm_sh A B j.toNat)) (hm : jm_hs A B m) : ∀ (f : Nat) {j : Int}, 0 ≤ j → j + f = m → jm_hs A B j
  | 0, j, j0, hk => by
    have : j = m := by omega
    rw [this]
    exact hm
  | f + 1, j, j0, hk => ((jm_hs_s j0 (hb j j0 (by omega))).mp (jm_hs_le hb hm f (j := j + 1) (by omega) (by omega))).1
/-- the reference's shares: all else is as it was -/
def jm_f63 (σ σ' : jw_H) : Prop := (∀ o, o ≠ 103 → σ' o = σ o) ∧ ∀ j, (j < 60 ∨ 63 < j) → σ' 103 j = σ 103 j
theorem jm_f63_rf (σ : jw_H) : jm_f63 σ σ := ⟨fun _ _ => rfl, fun _ _ => rfl⟩
theorem jm_f63_tr {σ σ1 σ2 : jw_H} (a : jm_f63 σ σ1) (b : jm_f63 σ1 σ2) : jm_f63 σ σ2 := ⟨fun o h => (b.1 o h).trans (a.1 o h), fun j h => (b.2 j h).trans (a.2 j h)⟩
theorem jm_f63_up {σ σ' : jw_H} {j v : Int} (h : jm_f63 σ σ') (hj : 60 ≤ j ∧ j ≤ 63) : jm_f63 σ (jw_up σ' 103 j v) := ⟨fun o ho => by rw [jw_up_out _ _ _ ho]; exact h.1 o ho, fun j' hj' => by rw [jw_up_ne _ (by omega)]; exact h.2 j' hj'⟩
theorem jm_f63_z {σ σ' : jw_H} {C : List (ge_R × Int)} (hKN : jm_KN σ C) (h : jm_f63 σ σ') : jm_fz σ σ' := by
  refine ⟨fun o _ h2 => h.1 o h2, fun j hj => h.2 j (by omega), ?_⟩
  unfold jm_Ns
  rw [h.1 131 (by omega)]
  exact hKN.1.2.2.2.2.1
theorem jm_fz_ct' {σ σ' : jw_H} (h : jm_f63 σ σ') (i : Int) : jm_ct σ' i = jm_ct σ i := by
  unfold jm_ct
  rw [h.1 132 (by omega), h.1 133 (by omega), h.1 134 (by omega), h.1 135 (by omega)]
theorem jm_f63_mo {σ σ' : jw_H} (h : jm_f63 σ σ') (w i : Int) : jm_mw σ' w i = jm_mw σ w i := by
  funext j
  have ec := fun i => jm_fz_ct' h i
  unfold jm_mw jm_W
  rw [ec, ec, h.1 104 (by omega), h.1 135 (by omega)]
theorem jm_moreOf {n : Nat} {σ : jw_H} {C : List (ge_R × Int)} (hKN : jm_KN σ C) {w i j : Int} (w0 : 0 ≤ w) (w1 : w < σ 103 4) (i0 : 0 ≤ i) (i1 : i < σ 103 56) (j0 : 0 ≤ j) (j1 : j < σ 103 56) : jw_T (js_S n) 3 283 [.inr (.inr 103), .inl w, .inl i, .inl j] σ (fun r σ' => r = some (.inr (.inl (jm_mw σ w i j))) ∧ σ' = σ) := by
  refine jw_T_of (D := 2) (M := mm_283) rfl (Nat.le_of_ble_eq_true rfl) (ls0 := [some (.inr (.inr 103)), some (.inl w), some (.inl i), some (.inl j)]) rfl ?_ (by rintro _ _ ⟨rfl, -⟩; rfl)
  have hcb := (jm_kw_cbd hKN.1).2 σ (jm_fk_rf σ)
  have hcn := hcb.1
  have hPm := hKN.1.1
  have hqq := hPm.1
  have hww := hPm.2.1
  have hkk := hPm.2.2.1
  have hg57 := hKN.2.2.1.1
  have hg58 := hKN.2.2.2.1.1
  refine jw_W_n 3 (i' := 3) (ls' := [some (.inr (.inr 103)), some (.inl w), some (.inl i), some (.inl j)]) (st' := [.inl i, .inl w, .inr (.inr 103)]) rfl ?_
  refine jw_W_call (as := [.inr (.inr 103), .inl w, .inl i]) (rest := []) rfl rfl rfl rfl (Nat.le_of_ble_eq_true rfl) (.inr rfl) (jm_wishedOf hPm hcb (by omega) (by omega) (by omega) (by omega)) (by omega) ?_ rfl
  rintro r1 σz ⟨rfl, hs⟩
  rw [hs]
  show jw_W (js_S n) _ md_283 4 [some (.inr (.inr 103)), some (.inl w), some (.inl i), some (.inl j)] [.inr (.inl (ge_f (jm_W σ w) (jm_ct σ i)))] σ _
  refine jw_W_n 1 (i' := 5) (ls' := [some (.inr (.inr 103)), some (.inl w), some (.inl i), some (.inl j)]) (st' := [.inr (.inr 103), .inr (.inl (ge_f (jm_W σ w) (jm_ct σ i)))]) rfl ?_
  refine jw_W_gf rfl rfl rfl ?_
  show jw_W (js_S n) _ md_283 6 [some (.inr (.inr 103)), some (.inl w), some (.inl i), some (.inl j)] [.inr (.inr 135), .inr (.inl (ge_f (jm_W σ w) (jm_ct σ i)))] σ _
  refine jw_W_n 1 (i' := 7) (ls' := [some (.inr (.inr 103)), some (.inl w), some (.inl i), some (.inl j)]) (st' := [.inl j, .inr (.inr 135), .inr (.inl (ge_f (jm_W σ w) (jm_ct σ i)))]) rfl ?_
  refine jw_W_la rfl rfl (by omega) (by omega) (by omega) ?_
  show jw_W (js_S n) _ md_283 8 [some (.inr (.inr 103)), some (.inl w), some (.inl i), some (.inl j)] [.inr (.inl (σ 135 j)), .inr (.inl (ge_f (jm_W σ w) (jm_ct σ i)))] σ _
  refine jw_W_n 4 (i' := 12) (ls' := [some (.inr (.inr 103)), some (.inl w), some (.inl i), some (.inl j)]) (st' := [.inl j, .inl w, .inr (.inr 103), .inr (.inl ((ge_f (jm_W σ w) (jm_ct σ i)) * (σ 135 j)))]) rfl ?_
  refine jw_W_call (as := [.inr (.inr 103), .inl w, .inl j]) (rest := [.inr (.inl ((ge_f (jm_W σ w) (jm_ct σ i)) * (σ 135 j)))]) rfl rfl rfl rfl (Nat.le_of_ble_eq_true rfl) (.inr rfl) (jm_wishedOf hPm hcb (by omega) (by omega) (by omega) (by omega)) (by omega) ?_ rfl
  rintro r1 σz ⟨rfl, hs⟩
  rw [hs]
  show jw_W (js_S n) _ md_283 13 [some (.inr (.inr 103)), some (.inl w), some (.inl i), some (.inl j)] [.inr (.inl (ge_f (jm_W σ w) (jm_ct σ j))), .inr (.inl ((ge_f (jm_W σ w) (jm_ct σ i)) * (σ 135 j)))] σ _
  refine jw_W_n 1 (i' := 14) (ls' := [some (.inr (.inr 103)), some (.inl w), some (.inl i), some (.inl j)]) (st' := [.inr (.inr 103), .inr (.inl (ge_f (jm_W σ w) (jm_ct σ j))), .inr (.inl ((ge_f (jm_W σ w) (jm_ct σ i)) * (σ 135 j)))]) rfl ?_
  refine jw_W_gf rfl rfl rfl ?_
  show jw_W (js_S n) _ md_283 15 [some (.inr (.inr 103)), some (.inl w), some (.inl i), some (.inl j)] [.inr (.inr 135), .inr (.inl (ge_f (jm_W σ w) (jm_ct σ j))), .inr (.inl ((ge_f (jm_W σ w) (jm_ct σ i)) * (σ 135 j)))] σ _
  refine jw_W_n 1 (i' := 16) (ls' := [some (.inr (.inr 103)), some (.inl w), some (.inl i), some (.inl j)]) (st' := [.inl i, .inr (.inr 135), .inr (.inl (ge_f (jm_W σ w) (jm_ct σ j))), .inr (.inl ((ge_f (jm_W σ w) (jm_ct σ i)) * (σ 135 j)))]) rfl ?_
  refine jw_W_la rfl rfl (by omega) (by omega) (by omega) ?_
  show jw_W (js_S n) _ md_283 17 [some (.inr (.inr 103)), some (.inl w), some (.inl i), some (.inl j)] [.inr (.inl (σ 135 i)), .inr (.inl (ge_f (jm_W σ w) (jm_ct σ j))), .inr (.inl ((ge_f (jm_W σ w) (jm_ct σ i)) * (σ 135 j)))] σ _
  refine jw_W_n 2 (i' := 19) (ls' := [some (.inr (.inr 103)), some (.inl w), some (.inl i), some (.inl j)]) (st' := [.inr (.inl (((ge_f (jm_W σ w) (jm_ct σ i)) * (σ 135 j)) - ((ge_f (jm_W σ w) (jm_ct σ j)) * (σ 135 i))))]) rfl ?_
  refine jw_W_lr rfl ?_
  exact ⟨rfl, rfl⟩
theorem jm_narrows {n : Nat} {σ : jw_H} {C : List (ge_R × Int)} (hKN : jm_KN σ C) {i j a b : Int} (i0 : 0 ≤ i) (i1 : i < σ 103 56) (j0 : 0 ≤ j) (j1 : j < σ 103 56) (hw2 : σ 103 4 = 2) (ea : jm_mw σ 0 i j = a) (eb : jm_mw σ 1 i j = b) (hsb : jm_sb (σ 103 60, σ 103 61, σ 103 62, σ 103 63)) : jw_T (js_S n) 4 284 [.inr (.inr 103), .inl i, .inl j] σ (fun r σ' => ∃ v, r = some (.inl v) ∧ jm_f63 σ σ' ∧ (σ' 103 60, σ' 103 61, σ' 103 62, σ' 103 63) = jm_st a b (σ 103 60, σ 103 61, σ 103 62, σ 103 63) ∧ (v = 1 ∧ jm_sok a b (σ 103 60, σ 103 61, σ 103 62, σ 103 63) ∨ v = 0 ∧ ¬ jm_sok a b (σ 103 60, σ 103 61, σ 103 62, σ 103 63))) := by
  refine jw_T_of (D := 3) (M := mm_284) rfl (Nat.le_of_ble_eq_true rfl) (ls0 := [some (.inr (.inr 103)), some (.inl i), some (.inl j), none, none, none, none, none, none, none, none, none, none]) rfl ?_ (by rintro _ _ ⟨v, rfl, -, -, ⟨rfl, -⟩ | ⟨rfl, -⟩⟩ <;> rfl)
  have hcb := (jm_kw_cbd hKN.1).2 σ (jm_fk_rf σ)
  have hcn := hcb.1
  have hPm := hKN.1.1
  have hqq := hPm.1
  have hww := hPm.2.1
  have hkk := hPm.2.2.1
  have hg57 := hKN.2.2.1.1
  have hg58 := hKN.2.2.2.1.1
  have ha := jm_mw_bd hPm hcb (w := 0) (by omega) (by omega) i0 i1 j0 j1
  have hb := jm_mw_bd hPm hcb (w := 1) (by omega) (by omega) i0 i1 j0 j1
  rw [ea] at ha
  rw [eb] at hb
  have hsb' := hsb
  unfold jm_sb at hsb'
  dsimp only at hsb'
  refine jw_W_n 4 (i' := 4) (ls' := [some (.inr (.inr 103)), some (.inl i), some (.inl j), none, none, none, none, none, none, none, none, none, none]) (st' := [.inl j, .inl i, .inl 0, .inr (.inr 103)]) rfl ?_
  refine jw_W_call (as := [.inr (.inr 103), .inl 0, .inl i, .inl j]) (rest := []) rfl rfl rfl rfl (Nat.le_of_ble_eq_true rfl) (.inr rfl) (jm_moreOf hKN (by omega) (by omega) i0 i1 j0 j1) (by omega) ?_ rfl
  rintro r1 σz ⟨rfl, hs⟩
  rw [hs, ea]
  show jw_W (js_S n) _ md_284 5 [some (.inr (.inr 103)), some (.inl i), some (.inl j), none, none, none, none, none, none, none, none, none, none] [.inr (.inl a)] σ _
  refine jw_W_n 5 (i' := 10) (ls' := [some (.inr (.inr 103)), some (.inl i), some (.inl j), some (.inr (.inl a)), none, none, none, none, none, none, none, none, none]) (st' := [.inl j, .inl i, .inl 1, .inr (.inr 103)]) rfl ?_
  refine jw_W_call (as := [.inr (.inr 103), .inl 1, .inl i, .inl j]) (rest := []) rfl rfl rfl rfl (Nat.le_of_ble_eq_true rfl) (.inr rfl) (jm_moreOf hKN (by omega) (by omega) i0 i1 j0 j1) (by omega) ?_ rfl
  rintro r1 σz ⟨rfl, hs⟩
  rw [hs, eb]
  show jw_W (js_S n) _ md_284 11 [some (.inr (.inr 103)), some (.inl i), some (.inl j), some (.inr (.inl a)), none, none, none, none, none, none, none, none, none] [.inr (.inl b)] σ _
  refine jw_W_n 7 (i' := 18) (ls' := [some (.inr (.inr 103)), some (.inl i), some (.inl j), some (.inr (.inl a)), none, some (.inr (.inl b)), none, some (.inr (.inl (a - b))), none, none, none, none, none]) (st' := [.inr (.inl 0), .inr (.inl (a - b))]) rfl ?_
  refine jw_W_lc rfl rfl (by unfold jw_rgl; omega) (by unfold jw_rgl; omega) (fun hc1 => ?_) (fun hc1 => ?_)
  · have hc1 : (a - b) ≠ 0 := hc1
    refine jw_W_n 2 (i' := 30) (ls' := [some (.inr (.inr 103)), some (.inl i), some (.inl j), some (.inr (.inl a)), none, some (.inr (.inl b)), none, some (.inr (.inl (a - b))), none, none, none, none, none]) (st' := [.inr (.inl 0), .inr (.inl (a - b))]) rfl ?_
    refine jw_W_lc rfl rfl (by unfold jw_rgl; omega) (by unfold jw_rgl; omega) (fun hc2 => ?_) (fun hc2 => ?_)
    · have hc2 : (a - b) ≤ 0 := hc2
      refine jw_W_n 2 (i' := 37) (ls' := [some (.inr (.inr 103)), some (.inl i), some (.inl j), some (.inr (.inl a)), none, some (.inr (.inl b)), none, some (.inr (.inl (a - b))), none, some (.inr (.inl b)), none, none, none]) (st' := []) rfl ?_
      refine jw_W_n 2 (i' := 39) (ls' := [some (.inr (.inr 103)), some (.inl i), some (.inl j), some (.inr (.inl a)), none, some (.inr (.inl b)), none, some (.inr (.inl (a - b))), none, some (.inr (.inl b)), none, none, none]) (st' := [.inr (.inl 0), .inr (.inl (a - b))]) rfl ?_
      refine jw_W_lc rfl rfl (by unfold jw_rgl; omega) (by unfold jw_rgl; omega) (fun hc3 => ?_) (fun hc3 => ?_)
      · have hc3 : (a - b) ≤ 0 := hc3
        refine jw_W_n 3 (i' := 46) (ls' := [some (.inr (.inr 103)), some (.inl i), some (.inl j), some (.inr (.inl a)), none, some (.inr (.inl b)), none, some (.inr (.inl (a - b))), none, some (.inr (.inl b)), none, some (.inr (.inl ((-(a - b))))), none]) (st' := []) rfl ?_
        have m1 := jx_mulb (x := b) (y := σ 103 61) (A := 9000000) (B := 9000000) (by omega) (by omega) (by omega)
        have m2 := jx_mulb (x := σ 103 60) (y := -(a - b)) (A := 9000000) (B := 9000000) (by omega) (by omega) (by omega)
        have m3 := jx_mulb (x := b) (y := σ 103 63) (A := 9000000) (B := 9000000) (by omega) (by omega) (by omega)
        have m4 := jx_mulb (x := σ 103 62) (y := -(a - b)) (A := 9000000) (B := 9000000) (by omega) (by omega) (by omega)
        refine jw_W_n 2 (i' := 48) (ls' := [some (.inr (.inr 103)), some (.inl i), some (.inl j), some (.inr (.inl a)), none, some (.inr (.inl b)), none, some (.inr (.inl (a - b))), none, some (.inr (.inl b)), none, some (.inr (.inl ((-(a - b))))), none]) (st' := [.inr (.inl 0), .inr (.inl (a - b))]) rfl ?_
        refine jw_W_lc rfl rfl (by unfold jw_rgl; omega) (by unfold jw_rgl; omega) (fun hc4 => ?_) (fun hc4 => ?_)
        · have hc4 : (a - b) ≤ 0 := hc4
          refine jw_W_n 2 (i' := 68) (ls' := [some (.inr (.inr 103)), some (.inl i), some (.inl j), some (.inr (.inl a)), none, some (.inr (.inl b)), none, some (.inr (.inl (a - b))), none, some (.inr (.inl b)), none, some (.inr (.inl ((-(a - b))))), none]) (st' := [.inr (.inl 0), .inr (.inl (a - b))]) rfl ?_
          refine jw_W_lc rfl rfl (by unfold jw_rgl; omega) (by unfold jw_rgl; omega) (fun hc5 => ?_) (fun hc5 => ?_)
          · have hc5 : (a - b) ≥ 0 := hc5
            omega
          · have hc5 : ¬ ((a - b) ≥ 0) := hc5
            refine jw_W_n 2 (i' := 72) (ls' := [some (.inr (.inr 103)), some (.inl i), some (.inl j), some (.inr (.inl a)), none, some (.inr (.inl b)), none, some (.inr (.inl (a - b))), none, some (.inr (.inl b)), none, some (.inr (.inl ((-(a - b))))), none]) (st' := [.inr (.inr 103), .inr (.inl b)]) rfl ?_
            refine jw_W_gf rfl rfl rfl ?_
            show jw_W (js_S n) _ md_284 73 [some (.inr (.inr 103)), some (.inl i), some (.inl j), some (.inr (.inl a)), none, some (.inr (.inl b)), none, some (.inr (.inl (a - b))), none, some (.inr (.inl b)), none, some (.inr (.inl ((-(a - b))))), none] [.inr (.inl (σ 103 63)), .inr (.inl b)] σ _
            refine jw_W_n 2 (i' := 75) (ls' := [some (.inr (.inr 103)), some (.inl i), some (.inl j), some (.inr (.inl a)), none, some (.inr (.inl b)), none, some (.inr (.inl (a - b))), none, some (.inr (.inl b)), none, some (.inr (.inl ((-(a - b))))), none]) (st' := [.inr (.inr 103), .inr (.inl (b * (σ 103 63)))]) rfl ?_
            refine jw_W_gf rfl rfl rfl ?_
            show jw_W (js_S n) _ md_284 76 [some (.inr (.inr 103)), some (.inl i), some (.inl j), some (.inr (.inl a)), none, some (.inr (.inl b)), none, some (.inr (.inl (a - b))), none, some (.inr (.inl b)), none, some (.inr (.inl ((-(a - b))))), none] [.inr (.inl (σ 103 62)), .inr (.inl (b * (σ 103 63)))] σ _
            refine jw_W_n 2 (i' := 78) (ls' := [some (.inr (.inr 103)), some (.inl i), some (.inl j), some (.inr (.inl a)), none, some (.inr (.inl b)), none, some (.inr (.inl (a - b))), none, some (.inr (.inl b)), none, some (.inr (.inl ((-(a - b))))), none]) (st' := [.inr (.inl ((σ 103 62) * ((-(a - b))))), .inr (.inl (b * (σ 103 63)))]) rfl ?_
            refine jw_W_lc rfl rfl (by unfold jw_rgl; omega) (by unfold jw_rgl; omega) (fun hc6 => ?_) (fun hc6 => ?_)
            · have hc6 : (b * (σ 103 63)) ≥ ((σ 103 62) * ((-(a - b)))) := hc6
              have m5 := jx_mulb (x := σ 103 60) (y := σ 103 63) (A := 9000000) (B := 9000000) (by omega) (by omega) (by omega)
              have m6 := jx_mulb (x := σ 103 62) (y := σ 103 61) (A := 9000000) (B := 9000000) (by omega) (by omega) (by omega)
              refine jw_W_n 1 (i' := 87) (ls' := [some (.inr (.inr 103)), some (.inl i), some (.inl j), some (.inr (.inl a)), none, some (.inr (.inl b)), none, some (.inr (.inl (a - b))), none, some (.inr (.inl b)), none, some (.inr (.inl ((-(a - b))))), none]) (st' := [.inr (.inr 103)]) rfl ?_
              refine jw_W_gf rfl rfl rfl ?_
              show jw_W (js_S n) _ md_284 88 [some (.inr (.inr 103)), some (.inl i), some (.inl j), some (.inr (.inl a)), none, some (.inr (.inl b)), none, some (.inr (.inl (a - b))), none, some (.inr (.inl b)), none, some (.inr (.inl ((-(a - b))))), none] [.inr (.inl (σ 103 60))] σ _
              refine jw_W_n 1 (i' := 89) (ls' := [some (.inr (.inr 103)), some (.inl i), some (.inl j), some (.inr (.inl a)), none, some (.inr (.inl b)), none, some (.inr (.inl (a - b))), none, some (.inr (.inl b)), none, some (.inr (.inl ((-(a - b))))), none]) (st' := [.inr (.inr 103), .inr (.inl (σ 103 60))]) rfl ?_
              refine jw_W_gf rfl rfl rfl ?_
              show jw_W (js_S n) _ md_284 90 [some (.inr (.inr 103)), some (.inl i), some (.inl j), some (.inr (.inl a)), none, some (.inr (.inl b)), none, some (.inr (.inl (a - b))), none, some (.inr (.inl b)), none, some (.inr (.inl ((-(a - b))))), none] [.inr (.inl (σ 103 63)), .inr (.inl (σ 103 60))] σ _
              refine jw_W_n 2 (i' := 92) (ls' := [some (.inr (.inr 103)), some (.inl i), some (.inl j), some (.inr (.inl a)), none, some (.inr (.inl b)), none, some (.inr (.inl (a - b))), none, some (.inr (.inl b)), none, some (.inr (.inl ((-(a - b))))), none]) (st' := [.inr (.inr 103), .inr (.inl ((σ 103 60) * (σ 103 63)))]) rfl ?_
              refine jw_W_gf rfl rfl rfl ?_
              show jw_W (js_S n) _ md_284 93 [some (.inr (.inr 103)), some (.inl i), some (.inl j), some (.inr (.inl a)), none, some (.inr (.inl b)), none, some (.inr (.inl (a - b))), none, some (.inr (.inl b)), none, some (.inr (.inl ((-(a - b))))), none] [.inr (.inl (σ 103 62)), .inr (.inl ((σ 103 60) * (σ 103 63)))] σ _
              refine jw_W_n 1 (i' := 94) (ls' := [some (.inr (.inr 103)), some (.inl i), some (.inl j), some (.inr (.inl a)), none, some (.inr (.inl b)), none, some (.inr (.inl (a - b))), none, some (.inr (.inl b)), none, some (.inr (.inl ((-(a - b))))), none]) (st' := [.inr (.inr 103), .inr (.inl (σ 103 62)), .inr (.inl ((σ 103 60) * (σ 103 63)))]) rfl ?_
              refine jw_W_gf rfl rfl rfl ?_
              show jw_W (js_S n) _ md_284 95 [some (.inr (.inr 103)), some (.inl i), some (.inl j), some (.inr (.inl a)), none, some (.inr (.inl b)), none, some (.inr (.inl (a - b))), none, some (.inr (.inl b)), none, some (.inr (.inl ((-(a - b))))), none] [.inr (.inl (σ 103 61)), .inr (.inl (σ 103 62)), .inr (.inl ((σ 103 60) * (σ 103 63)))] σ _
              refine jw_W_n 1 (i' := 96) (ls' := [some (.inr (.inr 103)), some (.inl i), some (.inl j), some (.inr (.inl a)), none, some (.inr (.inl b)), none, some (.inr (.inl (a - b))), none, some (.inr (.inl b)), none, some (.inr (.inl ((-(a - b))))), none]) (st' := [.inr (.inl ((σ 103 62) * (σ 103 61))), .inr (.inl ((σ 103 60) * (σ 103 63)))]) rfl ?_
              refine jw_W_lc rfl rfl (by unfold jw_rgl; omega) (by unfold jw_rgl; omega) (fun hc7 => ?_) (fun hc7 => ?_)
              · have hc7 : ((σ 103 60) * (σ 103 63)) > ((σ 103 62) * (σ 103 61)) := hc7
                refine jw_W_n 1 (i' := 101) (ls' := [some (.inr (.inr 103)), some (.inl i), some (.inl j), some (.inr (.inl a)), none, some (.inr (.inl b)), none, some (.inr (.inl (a - b))), none, some (.inr (.inl b)), none, some (.inr (.inl ((-(a - b))))), none]) (st' := [.inl 0]) rfl ?_
                refine jw_W_ir rfl ?_
                have hf : jm_f63 σ σ := by first | exact jm_f63_rf _ | exact jm_f63_up (jm_f63_up (jm_f63_rf _) (by omega)) (by omega)
                have hst : jm_st a b (σ 103 60, σ 103 61, σ 103 62, σ 103 63) = (σ 103 60, σ 103 61, σ 103 62, σ 103 63) := by
                  unfold jm_st
                  dsimp only
                  split <;> (try split) <;> (try split) <;> first | rfl | omega
                refine ⟨_, rfl, hf, hst.symm, ?_⟩
                unfold jm_sok
                rw [hst]
                unfold jm_le
                dsimp only
                refine .inr ⟨rfl, fun hh => ?_⟩
                have h1 := hh.1
                first | (have h2 : (σ 103 60) * (σ 103 63) ≤ (σ 103 62) * (σ 103 61) := hh.2 (by omega); omega) | omega
              · have hc7 : ¬ (((σ 103 60) * (σ 103 63)) > ((σ 103 62) * (σ 103 61))) := hc7
                refine jw_W_n 2 (i' := 101) (ls' := [some (.inr (.inr 103)), some (.inl i), some (.inl j), some (.inr (.inl a)), none, some (.inr (.inl b)), none, some (.inr (.inl (a - b))), none, some (.inr (.inl b)), none, some (.inr (.inl ((-(a - b))))), none]) (st' := [.inl 1]) rfl ?_
                refine jw_W_ir rfl ?_
                have hf : jm_f63 σ σ := by first | exact jm_f63_rf _ | exact jm_f63_up (jm_f63_up (jm_f63_rf _) (by omega)) (by omega)
                have hst : jm_st a b (σ 103 60, σ 103 61, σ 103 62, σ 103 63) = (σ 103 60, σ 103 61, σ 103 62, σ 103 63) := by
                  unfold jm_st
                  dsimp only
                  split <;> (try split) <;> (try split) <;> first | rfl | omega
                refine ⟨_, rfl, hf, hst.symm, ?_⟩
                unfold jm_sok
                rw [hst]
                unfold jm_le
                dsimp only
                exact .inl ⟨rfl, by first | (show (a = b → 0 ≤ b) ∧ (a ≠ b → (σ 103 60) * (σ 103 63) ≤ (σ 103 62) * (σ 103 61)); omega) | (show (a = b → 0 ≤ b) ∧ (a ≠ b → _); exact ⟨fun _ => by omega, fun hh => absurd (show a = b by omega) hh⟩)⟩
            · have hc6 : ¬ ((b * (σ 103 63)) ≥ ((σ 103 62) * ((-(a - b))))) := hc6
              refine jw_W_n 2 (i' := 82) (ls' := [some (.inr (.inr 103)), some (.inl i), some (.inl j), some (.inr (.inl a)), none, some (.inr (.inl b)), none, some (.inr (.inl (a - b))), none, some (.inr (.inl b)), none, some (.inr (.inl ((-(a - b))))), none]) (st' := [.inr (.inl b), .inr (.inr 103)]) rfl ?_
              refine jw_W_pf (a := b) rfl (by omega) rfl rfl rfl rfl rfl ?_
              refine jw_W_n 2 (i' := 85) (ls' := [some (.inr (.inr 103)), some (.inl i), some (.inl j), some (.inr (.inl a)), none, some (.inr (.inl b)), none, some (.inr (.inl (a - b))), none, some (.inr (.inl b)), none, some (.inr (.inl ((-(a - b))))), none]) (st' := [.inr (.inl ((-(a - b)))), .inr (.inr 103)]) rfl ?_
              refine jw_W_pf (a := (-(a - b))) rfl (by omega) rfl rfl rfl rfl rfl ?_
              have m5 := jx_mulb (x := σ 103 60) (y := (-(a - b))) (A := 9000000) (B := 9000000) (by omega) (by omega) (by omega)
              have m6 := jx_mulb (x := b) (y := σ 103 61) (A := 9000000) (B := 9000000) (by omega) (by omega) (by omega)
              refine jw_W_n 1 (i' := 87) (ls' := [some (.inr (.inr 103)), some (.inl i), some (.inl j), some (.inr (.inl a)), none, some (.inr (.inl b)), none, some (.inr (.inl (a - b))), none, some (.inr (.inl b)), none, some (.inr (.inl ((-(a - b))))), none]) (st' := [.inr (.inr 103)]) rfl ?_
              refine jw_W_gf rfl rfl rfl ?_
              show jw_W (js_S n) _ md_284 88 [some (.inr (.inr 103)), some (.inl i), some (.inl j), some (.inr (.inl a)), none, some (.inr (.inl b)), none, some (.inr (.inl (a - b))), none, some (.inr (.inl b)), none, some (.inr (.inl ((-(a - b))))), none] [.inr (.inl (σ 103 60))] ((jw_up (jw_up σ 103 62 b) 103 63 ((-(a - b))))) _
              refine jw_W_n 1 (i' := 89) (ls' := [some (.inr (.inr 103)), some (.inl i), some (.inl j), some (.inr (.inl a)), none, some (.inr (.inl b)), none, some (.inr (.inl (a - b))), none, some (.inr (.inl b)), none, some (.inr (.inl ((-(a - b))))), none]) (st' := [.inr (.inr 103), .inr (.inl (σ 103 60))]) rfl ?_
              refine jw_W_gf rfl rfl rfl ?_
              show jw_W (js_S n) _ md_284 90 [some (.inr (.inr 103)), some (.inl i), some (.inl j), some (.inr (.inl a)), none, some (.inr (.inl b)), none, some (.inr (.inl (a - b))), none, some (.inr (.inl b)), none, some (.inr (.inl ((-(a - b))))), none] [.inr (.inl ((-(a - b)))), .inr (.inl (σ 103 60))] ((jw_up (jw_up σ 103 62 b) 103 63 ((-(a - b))))) _
              refine jw_W_n 2 (i' := 92) (ls' := [some (.inr (.inr 103)), some (.inl i), some (.inl j), some (.inr (.inl a)), none, some (.inr (.inl b)), none, some (.inr (.inl (a - b))), none, some (.inr (.inl b)), none, some (.inr (.inl ((-(a - b))))), none]) (st' := [.inr (.inr 103), .inr (.inl ((σ 103 60) * ((-(a - b)))))]) rfl ?_
              refine jw_W_gf rfl rfl rfl ?_
              show jw_W (js_S n) _ md_284 93 [some (.inr (.inr 103)), some (.inl i), some (.inl j), some (.inr (.inl a)), none, some (.inr (.inl b)), none, some (.inr (.inl (a - b))), none, some (.inr (.inl b)), none, some (.inr (.inl ((-(a - b))))), none] [.inr (.inl b), .inr (.inl ((σ 103 60) * ((-(a - b)))))] ((jw_up (jw_up σ 103 62 b) 103 63 ((-(a - b))))) _
              refine jw_W_n 1 (i' := 94) (ls' := [some (.inr (.inr 103)), some (.inl i), some (.inl j), some (.inr (.inl a)), none, some (.inr (.inl b)), none, some (.inr (.inl (a - b))), none, some (.inr (.inl b)), none, some (.inr (.inl ((-(a - b))))), none]) (st' := [.inr (.inr 103), .inr (.inl b), .inr (.inl ((σ 103 60) * ((-(a - b)))))]) rfl ?_
              refine jw_W_gf rfl rfl rfl ?_
              show jw_W (js_S n) _ md_284 95 [some (.inr (.inr 103)), some (.inl i), some (.inl j), some (.inr (.inl a)), none, some (.inr (.inl b)), none, some (.inr (.inl (a - b))), none, some (.inr (.inl b)), none, some (.inr (.inl ((-(a - b))))), none] [.inr (.inl (σ 103 61)), .inr (.inl b), .inr (.inl ((σ 103 60) * ((-(a - b)))))] ((jw_up (jw_up σ 103 62 b) 103 63 ((-(a - b))))) _
              refine jw_W_n 1 (i' := 96) (ls' := [some (.inr (.inr 103)), some (.inl i), some (.inl j), some (.inr (.inl a)), none, some (.inr (.inl b)), none, some (.inr (.inl (a - b))), none, some (.inr (.inl b)), none, some (.inr (.inl ((-(a - b))))), none]) (st' := [.inr (.inl (b * (σ 103 61))), .inr (.inl ((σ 103 60) * ((-(a - b)))))]) rfl ?_
              refine jw_W_lc rfl rfl (by unfold jw_rgl; omega) (by unfold jw_rgl; omega) (fun hc8 => ?_) (fun hc8 => ?_)
              · have hc8 : ((σ 103 60) * ((-(a - b)))) > (b * (σ 103 61)) := hc8
                refine jw_W_n 1 (i' := 101) (ls' := [some (.inr (.inr 103)), some (.inl i), some (.inl j), some (.inr (.inl a)), none, some (.inr (.inl b)), none, some (.inr (.inl (a - b))), none, some (.inr (.inl b)), none, some (.inr (.inl ((-(a - b))))), none]) (st' := [.inl 0]) rfl ?_
                refine jw_W_ir rfl ?_
                have hf : jm_f63 σ (jw_up (jw_up σ 103 62 b) 103 63 ((-(a - b)))) := by first | exact jm_f63_rf _ | exact jm_f63_up (jm_f63_up (jm_f63_rf _) (by omega)) (by omega)
                have hst : jm_st a b (σ 103 60, σ 103 61, σ 103 62, σ 103 63) = ((jw_up (jw_up σ 103 62 b) 103 63 ((-(a - b)))) 103 60, (jw_up (jw_up σ 103 62 b) 103 63 ((-(a - b)))) 103 61, (jw_up (jw_up σ 103 62 b) 103 63 ((-(a - b)))) 103 62, (jw_up (jw_up σ 103 62 b) 103 63 ((-(a - b)))) 103 63) := by
                  unfold jm_st
                  dsimp only
                  split <;> (try split) <;> (try split) <;> first | rfl | omega
                refine ⟨_, rfl, hf, hst.symm, ?_⟩
                unfold jm_sok
                rw [hst]
                unfold jm_le
                dsimp only
                refine .inr ⟨rfl, fun hh => ?_⟩
                have h1 := hh.1
                first | (have h2 : (σ 103 60) * ((-(a - b))) ≤ b * (σ 103 61) := hh.2 (by omega); omega) | omega
              · have hc8 : ¬ (((σ 103 60) * ((-(a - b)))) > (b * (σ 103 61))) := hc8
                refine jw_W_n 2 (i' := 101) (ls' := [some (.inr (.inr 103)), some (.inl i), some (.inl j), some (.inr (.inl a)), none, some (.inr (.inl b)), none, some (.inr (.inl (a - b))), none, some (.inr (.inl b)), none, some (.inr (.inl ((-(a - b))))), none]) (st' := [.inl 1]) rfl ?_
                refine jw_W_ir rfl ?_
                have hf : jm_f63 σ (jw_up (jw_up σ 103 62 b) 103 63 ((-(a - b)))) := by first | exact jm_f63_rf _ | exact jm_f63_up (jm_f63_up (jm_f63_rf _) (by omega)) (by omega)
                have hst : jm_st a b (σ 103 60, σ 103 61, σ 103 62, σ 103 63) = ((jw_up (jw_up σ 103 62 b) 103 63 ((-(a - b)))) 103 60, (jw_up (jw_up σ 103 62 b) 103 63 ((-(a - b)))) 103 61, (jw_up (jw_up σ 103 62 b) 103 63 ((-(a - b)))) 103 62, (jw_up (jw_up σ 103 62 b) 103 63 ((-(a - b)))) 103 63) := by
                  unfold jm_st
                  dsimp only
                  split <;> (try split) <;> (try split) <;> first | rfl | omega
                refine ⟨_, rfl, hf, hst.symm, ?_⟩
                unfold jm_sok
                rw [hst]
                unfold jm_le
                dsimp only
                exact .inl ⟨rfl, by first | (show (a = b → 0 ≤ b) ∧ (a ≠ b → (σ 103 60) * ((-(a - b))) ≤ b * (σ 103 61)); omega) | (show (a = b → 0 ≤ b) ∧ (a ≠ b → _); exact ⟨fun _ => by omega, fun hh => absurd (show a = b by omega) hh⟩)⟩
        · have hc4 : ¬ ((a - b) ≤ 0) := hc4
          omega
      · have hc3 : ¬ ((a - b) ≤ 0) := hc3
        omega
    · have hc2 : ¬ ((a - b) ≤ 0) := hc2
      refine jw_W_n 4 (i' := 37) (ls' := [some (.inr (.inr 103)), some (.inl i), some (.inl j), some (.inr (.inl a)), none, some (.inr (.inl b)), none, some (.inr (.inl (a - b))), none, some (.inr (.inl ((-b)))), none, none, none]) (st' := []) rfl ?_
      refine jw_W_n 2 (i' := 39) (ls' := [some (.inr (.inr 103)), some (.inl i), some (.inl j), some (.inr (.inl a)), none, some (.inr (.inl b)), none, some (.inr (.inl (a - b))), none, some (.inr (.inl ((-b)))), none, none, none]) (st' := [.inr (.inl 0), .inr (.inl (a - b))]) rfl ?_
      refine jw_W_lc rfl rfl (by unfold jw_rgl; omega) (by unfold jw_rgl; omega) (fun hc9 => ?_) (fun hc9 => ?_)
      · have hc9 : (a - b) ≤ 0 := hc9
        omega
      · have hc9 : ¬ ((a - b) ≤ 0) := hc9
        refine jw_W_n 3 (i' := 46) (ls' := [some (.inr (.inr 103)), some (.inl i), some (.inl j), some (.inr (.inl a)), none, some (.inr (.inl b)), none, some (.inr (.inl (a - b))), none, some (.inr (.inl ((-b)))), none, some (.inr (.inl (a - b))), none]) (st' := []) rfl ?_
        have m1 := jx_mulb (x := -b) (y := σ 103 61) (A := 9000000) (B := 9000000) (by omega) (by omega) (by omega)
        have m2 := jx_mulb (x := σ 103 60) (y := a - b) (A := 9000000) (B := 9000000) (by omega) (by omega) (by omega)
        have m3 := jx_mulb (x := -b) (y := σ 103 63) (A := 9000000) (B := 9000000) (by omega) (by omega) (by omega)
        have m4 := jx_mulb (x := σ 103 62) (y := a - b) (A := 9000000) (B := 9000000) (by omega) (by omega) (by omega)
        refine jw_W_n 2 (i' := 48) (ls' := [some (.inr (.inr 103)), some (.inl i), some (.inl j), some (.inr (.inl a)), none, some (.inr (.inl b)), none, some (.inr (.inl (a - b))), none, some (.inr (.inl ((-b)))), none, some (.inr (.inl (a - b))), none]) (st' := [.inr (.inl 0), .inr (.inl (a - b))]) rfl ?_
        refine jw_W_lc rfl rfl (by unfold jw_rgl; omega) (by unfold jw_rgl; omega) (fun hc10 => ?_) (fun hc10 => ?_)
        · have hc10 : (a - b) ≤ 0 := hc10
          omega
        · have hc10 : ¬ ((a - b) ≤ 0) := hc10
          refine jw_W_n 2 (i' := 52) (ls' := [some (.inr (.inr 103)), some (.inl i), some (.inl j), some (.inr (.inl a)), none, some (.inr (.inl b)), none, some (.inr (.inl (a - b))), none, some (.inr (.inl ((-b)))), none, some (.inr (.inl (a - b))), none]) (st' := [.inr (.inr 103), .inr (.inl ((-b)))]) rfl ?_
          refine jw_W_gf rfl rfl rfl ?_
          show jw_W (js_S n) _ md_284 53 [some (.inr (.inr 103)), some (.inl i), some (.inl j), some (.inr (.inl a)), none, some (.inr (.inl b)), none, some (.inr (.inl (a - b))), none, some (.inr (.inl ((-b)))), none, some (.inr (.inl (a - b))), none] [.inr (.inl (σ 103 61)), .inr (.inl ((-b)))] σ _
          refine jw_W_n 2 (i' := 55) (ls' := [some (.inr (.inr 103)), some (.inl i), some (.inl j), some (.inr (.inl a)), none, some (.inr (.inl b)), none, some (.inr (.inl (a - b))), none, some (.inr (.inl ((-b)))), none, some (.inr (.inl (a - b))), none]) (st' := [.inr (.inr 103), .inr (.inl ((-b) * (σ 103 61)))]) rfl ?_
          refine jw_W_gf rfl rfl rfl ?_
          show jw_W (js_S n) _ md_284 56 [some (.inr (.inr 103)), some (.inl i), some (.inl j), some (.inr (.inl a)), none, some (.inr (.inl b)), none, some (.inr (.inl (a - b))), none, some (.inr (.inl ((-b)))), none, some (.inr (.inl (a - b))), none] [.inr (.inl (σ 103 60)), .inr (.inl ((-b) * (σ 103 61)))] σ _
          refine jw_W_n 2 (i' := 58) (ls' := [some (.inr (.inr 103)), some (.inl i), some (.inl j), some (.inr (.inl a)), none, some (.inr (.inl b)), none, some (.inr (.inl (a - b))), none, some (.inr (.inl ((-b)))), none, some (.inr (.inl (a - b))), none]) (st' := [.inr (.inl ((σ 103 60) * (a - b))), .inr (.inl ((-b) * (σ 103 61)))]) rfl ?_
          refine jw_W_lc rfl rfl (by unfold jw_rgl; omega) (by unfold jw_rgl; omega) (fun hc11 => ?_) (fun hc11 => ?_)
          · have hc11 : ((-b) * (σ 103 61)) ≤ ((σ 103 60) * (a - b)) := hc11
            refine jw_W_n 2 (i' := 68) (ls' := [some (.inr (.inr 103)), some (.inl i), some (.inl j), some (.inr (.inl a)), none, some (.inr (.inl b)), none, some (.inr (.inl (a - b))), none, some (.inr (.inl ((-b)))), none, some (.inr (.inl (a - b))), none]) (st' := [.inr (.inl 0), .inr (.inl (a - b))]) rfl ?_
            refine jw_W_lc rfl rfl (by unfold jw_rgl; omega) (by unfold jw_rgl; omega) (fun hc12 => ?_) (fun hc12 => ?_)
            · have hc12 : (a - b) ≥ 0 := hc12
              have m5 := jx_mulb (x := σ 103 60) (y := σ 103 63) (A := 9000000) (B := 9000000) (by omega) (by omega) (by omega)
              have m6 := jx_mulb (x := σ 103 62) (y := σ 103 61) (A := 9000000) (B := 9000000) (by omega) (by omega) (by omega)
              refine jw_W_n 1 (i' := 87) (ls' := [some (.inr (.inr 103)), some (.inl i), some (.inl j), some (.inr (.inl a)), none, some (.inr (.inl b)), none, some (.inr (.inl (a - b))), none, some (.inr (.inl ((-b)))), none, some (.inr (.inl (a - b))), none]) (st' := [.inr (.inr 103)]) rfl ?_
              refine jw_W_gf rfl rfl rfl ?_
              show jw_W (js_S n) _ md_284 88 [some (.inr (.inr 103)), some (.inl i), some (.inl j), some (.inr (.inl a)), none, some (.inr (.inl b)), none, some (.inr (.inl (a - b))), none, some (.inr (.inl ((-b)))), none, some (.inr (.inl (a - b))), none] [.inr (.inl (σ 103 60))] σ _
              refine jw_W_n 1 (i' := 89) (ls' := [some (.inr (.inr 103)), some (.inl i), some (.inl j), some (.inr (.inl a)), none, some (.inr (.inl b)), none, some (.inr (.inl (a - b))), none, some (.inr (.inl ((-b)))), none, some (.inr (.inl (a - b))), none]) (st' := [.inr (.inr 103), .inr (.inl (σ 103 60))]) rfl ?_
              refine jw_W_gf rfl rfl rfl ?_
              show jw_W (js_S n) _ md_284 90 [some (.inr (.inr 103)), some (.inl i), some (.inl j), some (.inr (.inl a)), none, some (.inr (.inl b)), none, some (.inr (.inl (a - b))), none, some (.inr (.inl ((-b)))), none, some (.inr (.inl (a - b))), none] [.inr (.inl (σ 103 63)), .inr (.inl (σ 103 60))] σ _
              refine jw_W_n 2 (i' := 92) (ls' := [some (.inr (.inr 103)), some (.inl i), some (.inl j), some (.inr (.inl a)), none, some (.inr (.inl b)), none, some (.inr (.inl (a - b))), none, some (.inr (.inl ((-b)))), none, some (.inr (.inl (a - b))), none]) (st' := [.inr (.inr 103), .inr (.inl ((σ 103 60) * (σ 103 63)))]) rfl ?_
              refine jw_W_gf rfl rfl rfl ?_
              show jw_W (js_S n) _ md_284 93 [some (.inr (.inr 103)), some (.inl i), some (.inl j), some (.inr (.inl a)), none, some (.inr (.inl b)), none, some (.inr (.inl (a - b))), none, some (.inr (.inl ((-b)))), none, some (.inr (.inl (a - b))), none] [.inr (.inl (σ 103 62)), .inr (.inl ((σ 103 60) * (σ 103 63)))] σ _
              refine jw_W_n 1 (i' := 94) (ls' := [some (.inr (.inr 103)), some (.inl i), some (.inl j), some (.inr (.inl a)), none, some (.inr (.inl b)), none, some (.inr (.inl (a - b))), none, some (.inr (.inl ((-b)))), none, some (.inr (.inl (a - b))), none]) (st' := [.inr (.inr 103), .inr (.inl (σ 103 62)), .inr (.inl ((σ 103 60) * (σ 103 63)))]) rfl ?_
              refine jw_W_gf rfl rfl rfl ?_
              show jw_W (js_S n) _ md_284 95 [some (.inr (.inr 103)), some (.inl i), some (.inl j), some (.inr (.inl a)), none, some (.inr (.inl b)), none, some (.inr (.inl (a - b))), none, some (.inr (.inl ((-b)))), none, some (.inr (.inl (a - b))), none] [.inr (.inl (σ 103 61)), .inr (.inl (σ 103 62)), .inr (.inl ((σ 103 60) * (σ 103 63)))] σ _
              refine jw_W_n 1 (i' := 96) (ls' := [some (.inr (.inr 103)), some (.inl i), some (.inl j), some (.inr (.inl a)), none, some (.inr (.inl b)), none, some (.inr (.inl (a - b))), none, some (.inr (.inl ((-b)))), none, some (.inr (.inl (a - b))), none]) (st' := [.inr (.inl ((σ 103 62) * (σ 103 61))), .inr (.inl ((σ 103 60) * (σ 103 63)))]) rfl ?_
              refine jw_W_lc rfl rfl (by unfold jw_rgl; omega) (by unfold jw_rgl; omega) (fun hc13 => ?_) (fun hc13 => ?_)
              · have hc13 : ((σ 103 60) * (σ 103 63)) > ((σ 103 62) * (σ 103 61)) := hc13
                refine jw_W_n 1 (i' := 101) (ls' := [some (.inr (.inr 103)), some (.inl i), some (.inl j), some (.inr (.inl a)), none, some (.inr (.inl b)), none, some (.inr (.inl (a - b))), none, some (.inr (.inl ((-b)))), none, some (.inr (.inl (a - b))), none]) (st' := [.inl 0]) rfl ?_
                refine jw_W_ir rfl ?_
                have hf : jm_f63 σ σ := by first | exact jm_f63_rf _ | exact jm_f63_up (jm_f63_up (jm_f63_rf _) (by omega)) (by omega)
                have hst : jm_st a b (σ 103 60, σ 103 61, σ 103 62, σ 103 63) = (σ 103 60, σ 103 61, σ 103 62, σ 103 63) := by
                  unfold jm_st
                  dsimp only
                  split <;> (try split) <;> (try split) <;> first | rfl | omega
                refine ⟨_, rfl, hf, hst.symm, ?_⟩
                unfold jm_sok
                rw [hst]
                unfold jm_le
                dsimp only
                refine .inr ⟨rfl, fun hh => ?_⟩
                have h1 := hh.1
                first | (have h2 : (σ 103 60) * (σ 103 63) ≤ (σ 103 62) * (σ 103 61) := hh.2 (by omega); omega) | omega
              · have hc13 : ¬ (((σ 103 60) * (σ 103 63)) > ((σ 103 62) * (σ 103 61))) := hc13
                refine jw_W_n 2 (i' := 101) (ls' := [some (.inr (.inr 103)), some (.inl i), some (.inl j), some (.inr (.inl a)), none, some (.inr (.inl b)), none, some (.inr (.inl (a - b))), none, some (.inr (.inl ((-b)))), none, some (.inr (.inl (a - b))), none]) (st' := [.inl 1]) rfl ?_
                refine jw_W_ir rfl ?_
                have hf : jm_f63 σ σ := by first | exact jm_f63_rf _ | exact jm_f63_up (jm_f63_up (jm_f63_rf _) (by omega)) (by omega)
                have hst : jm_st a b (σ 103 60, σ 103 61, σ 103 62, σ 103 63) = (σ 103 60, σ 103 61, σ 103 62, σ 103 63) := by
                  unfold jm_st
                  dsimp only
                  split <;> (try split) <;> (try split) <;> first | rfl | omega
                refine ⟨_, rfl, hf, hst.symm, ?_⟩
                unfold jm_sok
                rw [hst]
                unfold jm_le
                dsimp only
                exact .inl ⟨rfl, by first | (show (a = b → 0 ≤ b) ∧ (a ≠ b → (σ 103 60) * (σ 103 63) ≤ (σ 103 62) * (σ 103 61)); omega) | (show (a = b → 0 ≤ b) ∧ (a ≠ b → _); exact ⟨fun _ => by omega, fun hh => absurd (show a = b by omega) hh⟩)⟩
            · have hc12 : ¬ ((a - b) ≥ 0) := hc12
              omega
          · have hc11 : ¬ (((-b) * (σ 103 61)) ≤ ((σ 103 60) * (a - b))) := hc11
            refine jw_W_n 2 (i' := 62) (ls' := [some (.inr (.inr 103)), some (.inl i), some (.inl j), some (.inr (.inl a)), none, some (.inr (.inl b)), none, some (.inr (.inl (a - b))), none, some (.inr (.inl ((-b)))), none, some (.inr (.inl (a - b))), none]) (st' := [.inr (.inl ((-b))), .inr (.inr 103)]) rfl ?_
            refine jw_W_pf (a := (-b)) rfl (by omega) rfl rfl rfl rfl rfl ?_
            refine jw_W_n 2 (i' := 65) (ls' := [some (.inr (.inr 103)), some (.inl i), some (.inl j), some (.inr (.inl a)), none, some (.inr (.inl b)), none, some (.inr (.inl (a - b))), none, some (.inr (.inl ((-b)))), none, some (.inr (.inl (a - b))), none]) (st' := [.inr (.inl (a - b)), .inr (.inr 103)]) rfl ?_
            refine jw_W_pf (a := a - b) rfl (by omega) rfl rfl rfl rfl rfl ?_
            refine jw_W_n 2 (i' := 68) (ls' := [some (.inr (.inr 103)), some (.inl i), some (.inl j), some (.inr (.inl a)), none, some (.inr (.inl b)), none, some (.inr (.inl (a - b))), none, some (.inr (.inl ((-b)))), none, some (.inr (.inl (a - b))), none]) (st' := [.inr (.inl 0), .inr (.inl (a - b))]) rfl ?_
            refine jw_W_lc rfl rfl (by unfold jw_rgl; omega) (by unfold jw_rgl; omega) (fun hc14 => ?_) (fun hc14 => ?_)
            · have hc14 : (a - b) ≥ 0 := hc14
              have m5 := jx_mulb (x := (-b)) (y := σ 103 63) (A := 9000000) (B := 9000000) (by omega) (by omega) (by omega)
              have m6 := jx_mulb (x := σ 103 62) (y := a - b) (A := 9000000) (B := 9000000) (by omega) (by omega) (by omega)
              refine jw_W_n 1 (i' := 87) (ls' := [some (.inr (.inr 103)), some (.inl i), some (.inl j), some (.inr (.inl a)), none, some (.inr (.inl b)), none, some (.inr (.inl (a - b))), none, some (.inr (.inl ((-b)))), none, some (.inr (.inl (a - b))), none]) (st' := [.inr (.inr 103)]) rfl ?_
              refine jw_W_gf rfl rfl rfl ?_
              show jw_W (js_S n) _ md_284 88 [some (.inr (.inr 103)), some (.inl i), some (.inl j), some (.inr (.inl a)), none, some (.inr (.inl b)), none, some (.inr (.inl (a - b))), none, some (.inr (.inl ((-b)))), none, some (.inr (.inl (a - b))), none] [.inr (.inl ((-b)))] ((jw_up (jw_up σ 103 60 ((-b))) 103 61 (a - b))) _
              refine jw_W_n 1 (i' := 89) (ls' := [some (.inr (.inr 103)), some (.inl i), some (.inl j), some (.inr (.inl a)), none, some (.inr (.inl b)), none, some (.inr (.inl (a - b))), none, some (.inr (.inl ((-b)))), none, some (.inr (.inl (a - b))), none]) (st' := [.inr (.inr 103), .inr (.inl ((-b)))]) rfl ?_
              refine jw_W_gf rfl rfl rfl ?_
              show jw_W (js_S n) _ md_284 90 [some (.inr (.inr 103)), some (.inl i), some (.inl j), some (.inr (.inl a)), none, some (.inr (.inl b)), none, some (.inr (.inl (a - b))), none, some (.inr (.inl ((-b)))), none, some (.inr (.inl (a - b))), none] [.inr (.inl (σ 103 63)), .inr (.inl ((-b)))] ((jw_up (jw_up σ 103 60 ((-b))) 103 61 (a - b))) _
              refine jw_W_n 2 (i' := 92) (ls' := [some (.inr (.inr 103)), some (.inl i), some (.inl j), some (.inr (.inl a)), none, some (.inr (.inl b)), none, some (.inr (.inl (a - b))), none, some (.inr (.inl ((-b)))), none, some (.inr (.inl (a - b))), none]) (st' := [.inr (.inr 103), .inr (.inl (((-b)) * (σ 103 63)))]) rfl ?_
              refine jw_W_gf rfl rfl rfl ?_
              show jw_W (js_S n) _ md_284 93 [some (.inr (.inr 103)), some (.inl i), some (.inl j), some (.inr (.inl a)), none, some (.inr (.inl b)), none, some (.inr (.inl (a - b))), none, some (.inr (.inl ((-b)))), none, some (.inr (.inl (a - b))), none] [.inr (.inl (σ 103 62)), .inr (.inl (((-b)) * (σ 103 63)))] ((jw_up (jw_up σ 103 60 ((-b))) 103 61 (a - b))) _
              refine jw_W_n 1 (i' := 94) (ls' := [some (.inr (.inr 103)), some (.inl i), some (.inl j), some (.inr (.inl a)), none, some (.inr (.inl b)), none, some (.inr (.inl (a - b))), none, some (.inr (.inl ((-b)))), none, some (.inr (.inl (a - b))), none]) (st' := [.inr (.inr 103), .inr (.inl (σ 103 62)), .inr (.inl (((-b)) * (σ 103 63)))]) rfl ?_
              refine jw_W_gf rfl rfl rfl ?_
              show jw_W (js_S n) _ md_284 95 [some (.inr (.inr 103)), some (.inl i), some (.inl j), some (.inr (.inl a)), none, some (.inr (.inl b)), none, some (.inr (.inl (a - b))), none, some (.inr (.inl ((-b)))), none, some (.inr (.inl (a - b))), none] [.inr (.inl (a - b)), .inr (.inl (σ 103 62)), .inr (.inl (((-b)) * (σ 103 63)))] ((jw_up (jw_up σ 103 60 ((-b))) 103 61 (a - b))) _
              refine jw_W_n 1 (i' := 96) (ls' := [some (.inr (.inr 103)), some (.inl i), some (.inl j), some (.inr (.inl a)), none, some (.inr (.inl b)), none, some (.inr (.inl (a - b))), none, some (.inr (.inl ((-b)))), none, some (.inr (.inl (a - b))), none]) (st' := [.inr (.inl ((σ 103 62) * (a - b))), .inr (.inl (((-b)) * (σ 103 63)))]) rfl ?_
              refine jw_W_lc rfl rfl (by unfold jw_rgl; omega) (by unfold jw_rgl; omega) (fun hc15 => ?_) (fun hc15 => ?_)
              · have hc15 : (((-b)) * (σ 103 63)) > ((σ 103 62) * (a - b)) := hc15
                refine jw_W_n 1 (i' := 101) (ls' := [some (.inr (.inr 103)), some (.inl i), some (.inl j), some (.inr (.inl a)), none, some (.inr (.inl b)), none, some (.inr (.inl (a - b))), none, some (.inr (.inl ((-b)))), none, some (.inr (.inl (a - b))), none]) (st' := [.inl 0]) rfl ?_
                refine jw_W_ir rfl ?_
                have hf : jm_f63 σ (jw_up (jw_up σ 103 60 ((-b))) 103 61 (a - b)) := by first | exact jm_f63_rf _ | exact jm_f63_up (jm_f63_up (jm_f63_rf _) (by omega)) (by omega)
                have hst : jm_st a b (σ 103 60, σ 103 61, σ 103 62, σ 103 63) = ((jw_up (jw_up σ 103 60 ((-b))) 103 61 (a - b)) 103 60, (jw_up (jw_up σ 103 60 ((-b))) 103 61 (a - b)) 103 61, (jw_up (jw_up σ 103 60 ((-b))) 103 61 (a - b)) 103 62, (jw_up (jw_up σ 103 60 ((-b))) 103 61 (a - b)) 103 63) := by
                  unfold jm_st
                  dsimp only
                  split <;> (try split) <;> (try split) <;> first | rfl | omega
                refine ⟨_, rfl, hf, hst.symm, ?_⟩
                unfold jm_sok
                rw [hst]
                unfold jm_le
                dsimp only
                refine .inr ⟨rfl, fun hh => ?_⟩
                have h1 := hh.1
                first | (have h2 : ((-b)) * (σ 103 63) ≤ (σ 103 62) * (a - b) := hh.2 (by omega); omega) | omega
              · have hc15 : ¬ ((((-b)) * (σ 103 63)) > ((σ 103 62) * (a - b))) := hc15
                refine jw_W_n 2 (i' := 101) (ls' := [some (.inr (.inr 103)), some (.inl i), some (.inl j), some (.inr (.inl a)), none, some (.inr (.inl b)), none, some (.inr (.inl (a - b))), none, some (.inr (.inl ((-b)))), none, some (.inr (.inl (a - b))), none]) (st' := [.inl 1]) rfl ?_
                refine jw_W_ir rfl ?_
                have hf : jm_f63 σ (jw_up (jw_up σ 103 60 ((-b))) 103 61 (a - b)) := by first | exact jm_f63_rf _ | exact jm_f63_up (jm_f63_up (jm_f63_rf _) (by omega)) (by omega)
                have hst : jm_st a b (σ 103 60, σ 103 61, σ 103 62, σ 103 63) = ((jw_up (jw_up σ 103 60 ((-b))) 103 61 (a - b)) 103 60, (jw_up (jw_up σ 103 60 ((-b))) 103 61 (a - b)) 103 61, (jw_up (jw_up σ 103 60 ((-b))) 103 61 (a - b)) 103 62, (jw_up (jw_up σ 103 60 ((-b))) 103 61 (a - b)) 103 63) := by
                  unfold jm_st
                  dsimp only
                  split <;> (try split) <;> (try split) <;> first | rfl | omega
                refine ⟨_, rfl, hf, hst.symm, ?_⟩
                unfold jm_sok
                rw [hst]
                unfold jm_le
                dsimp only
                exact .inl ⟨rfl, by first | (show (a = b → 0 ≤ b) ∧ (a ≠ b → ((-b)) * (σ 103 63) ≤ (σ 103 62) * (a - b)); omega) | (show (a = b → 0 ≤ b) ∧ (a ≠ b → _); exact ⟨fun _ => by omega, fun hh => absurd (show a = b by omega) hh⟩)⟩
            · have hc14 : ¬ ((a - b) ≥ 0) := hc14
              omega
  · have hc1 : (a - b) = 0 := Classical.not_not.mp hc1
    refine jw_W_n 2 (i' := 22) (ls' := [some (.inr (.inr 103)), some (.inl i), some (.inl j), some (.inr (.inl a)), none, some (.inr (.inl b)), none, some (.inr (.inl (a - b))), none, none, none, none, none]) (st' := [.inr (.inl 0), .inr (.inl b)]) rfl ?_
    refine jw_W_lc rfl rfl (by unfold jw_rgl; omega) (by unfold jw_rgl; omega) (fun hc16 => ?_) (fun hc16 => ?_)
    · have hc16 : b < 0 := hc16
      refine jw_W_n 1 (i' := 27) (ls' := [some (.inr (.inr 103)), some (.inl i), some (.inl j), some (.inr (.inl a)), none, some (.inr (.inl b)), none, some (.inr (.inl (a - b))), none, none, none, none, none]) (st' := [.inl 0]) rfl ?_
      refine jw_W_ir rfl ?_
      have hf : jm_f63 σ σ := by first | exact jm_f63_rf _ | exact jm_f63_up (jm_f63_up (jm_f63_rf _) (by omega)) (by omega)
      have hst : jm_st a b (σ 103 60, σ 103 61, σ 103 62, σ 103 63) = (σ 103 60, σ 103 61, σ 103 62, σ 103 63) := by
        unfold jm_st
        dsimp only
        split <;> (try split) <;> (try split) <;> first | rfl | omega
      refine ⟨_, rfl, hf, hst.symm, ?_⟩
      unfold jm_sok
      rw [hst]
      unfold jm_le
      dsimp only
      refine .inr ⟨rfl, fun hh => ?_⟩
      have h1 := hh.1
      first | (have h2 : (σ 103 60) * (σ 103 63) ≤ (σ 103 62) * (σ 103 61) := hh.2 (by omega); omega) | omega
    · have hc16 : ¬ (b < 0) := hc16
      refine jw_W_n 2 (i' := 27) (ls' := [some (.inr (.inr 103)), some (.inl i), some (.inl j), some (.inr (.inl a)), none, some (.inr (.inl b)), none, some (.inr (.inl (a - b))), none, none, none, none, none]) (st' := [.inl 1]) rfl ?_
      refine jw_W_ir rfl ?_
      have hf : jm_f63 σ σ := by first | exact jm_f63_rf _ | exact jm_f63_up (jm_f63_up (jm_f63_rf _) (by omega)) (by omega)
      have hst : jm_st a b (σ 103 60, σ 103 61, σ 103 62, σ 103 63) = (σ 103 60, σ 103 61, σ 103 62, σ 103 63) := by
        unfold jm_st
        dsimp only
        split <;> (try split) <;> (try split) <;> first | rfl | omega
      refine ⟨_, rfl, hf, hst.symm, ?_⟩
      unfold jm_sok
      rw [hst]
      unfold jm_le
      dsimp only
      exact .inl ⟨rfl, by first | (show (a = b → 0 ≤ b) ∧ (a ≠ b → (σ 103 60) * (σ 103 63) ≤ (σ 103 62) * (σ 103 61)); omega) | (show (a = b → 0 ≤ b) ∧ (a ≠ b → _); exact ⟨fun _ => by omega, fun hh => absurd (show a = b by omega) hh⟩)⟩

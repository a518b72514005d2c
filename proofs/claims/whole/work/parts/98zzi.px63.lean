/-! ===== check: class and reference ===== -/
/-- the byte that is due -/
def jn_due (σ : jw_H) (i : Int) : Int := if i < σ 103 56 then jm_of (σ 132 i) (σ 135 i) 1 % 256 else 255
/-- the answer of check -/
def jn_cka (σ : jw_H) (b : Int → Int) (t m v : Int) : Prop := (v = -2 ∧ ¬ ((0 ≤ m ∧ m ≤ 60) ∧ m ≤ t)) ∨ (((0 ≤ m ∧ m ≤ 60) ∧ m ≤ t) ∧ ((v = -1 ∧ ∀ i, 0 ≤ i → i < m → b i = jn_due σ i) ∨ ((0 ≤ v ∧ v < m) ∧ b v ≠ jn_due σ v ∧ ∀ i, 0 ≤ i → i < v → b i = jn_due σ i)))
theorem jn_cka_uq {σ : jw_H} {b : Int → Int} {t m u v : Int} (h1 : jn_cka σ b t m u) (h2 : jn_cka σ b t m v) : u = v := by
  rcases h1 with ⟨e1, a1⟩ | ⟨a1, ⟨e1, b1⟩ | ⟨b1, c1, d1⟩⟩ <;> rcases h2 with ⟨e2, a2⟩ | ⟨a2, ⟨e2, b2⟩ | ⟨b2, c2, d2⟩⟩ <;> first | exact e1.trans e2.symm | exact absurd a1 a2 | exact absurd a2 a1 | exact absurd (b1 v b2.1 b2.2) c2 | exact absurd (b2 u b1.1 b1.2) c1 | (rcases (show u < v ∨ u = v ∨ v < u by omega) with h | h | h; exact absurd (d2 u b1.1 h) c1; exact h; exact absurd (d1 v b2.1 h) c2)
theorem jn_due_me {σ0 σ : jw_H} (h : jx_me σ0 σ) (i : Int) : jn_due σ i = jn_due σ0 i := by
  unfold jn_due
  rw [h 103 (by omega), h 132 (by omega), h 135 (by omega)]
theorem jn_land {x : Int} (x0 : 0 ≤ x) (x1 : x ≤ 9223372036854775807) : jw_land x 255 = x % 256 := by
  have e0 : x = ((x.toNat : Nat) : Int) := by omega
  unfold jw_land
  have e : (Int64.ofInt x &&& Int64.ofInt 255).toBitVec = (Int64.ofInt x).toBitVec &&& 255#64 := by
    rw [Int64.toBitVec_and]
    rfl
  show (Int64.ofInt x &&& Int64.ofInt 255).toBitVec.toInt = _
  rw [e]
  have e1 : (Int64.ofInt x).toBitVec.toNat = x.toNat := by
    have h1 : (Int64.ofInt x).toBitVec = BitVec.ofInt 64 x := rfl
    rw [h1, BitVec.toNat_ofInt]
    show (x % 18446744073709551616).toNat = x.toNat
    omega
  have e2 : ((Int64.ofInt x).toBitVec &&& 255#64).toNat = x.toNat % 256 := by
    rw [BitVec.toNat_and, e1]
    show x.toNat &&& (2 ^ 8 - 1) = x.toNat % 2 ^ 8
    exact Nat.and_two_pow_sub_one_eq_mod _ 8
  rw [BitVec.toInt_eq_toNat_of_lt (by rw [e2]; omega), e2]
  omega
/-- the class's store while it checks -/
def jn_cf (σ0 σ : jw_H) : Prop := (∀ c, c ≠ 13 → c ≠ 98 → σ c = σ0 c) ∧ (∀ j, j ≠ 1 → σ 13 j = σ0 13 j) ∧ σ 13 1 = 0
theorem jn_cf_fs {σ0 σ : jw_H} {v : Int × Int} (h : jn_cf σ0 σ) : jn_cf σ0 (jx_fs σ 98 v) := by
  refine ⟨fun c h1 h2 => ?_, fun j hj => ?_, ?_⟩
  · rw [jx_fs_o _ _ h2]
    exact h.1 c h1 h2
  · rw [jx_fs_o _ _ (by decide)]
    exact h.2.1 j hj
  · rw [jx_fs_o _ _ (by decide)]
    exact h.2.2
theorem jn_of1 {u l : Int} (l0 : 0 < l) (l1 : l ≤ 162) : 0 < jm_of u l 1 ∧ jm_of u l 1 ≤ 162 := by
  have e := (jx_fr_of (u := u) l0).2
  have h1 := jx_fr_pos (u := u) (l := l) (by omega)
  have h2 := jx_fr_le (u := u) l0
  omega
theorem jx_check_loop {n : Nat} {σ0 : jw_H} {D : Nat} (hD : 3 ≤ D) {o : Nat} {C : List (ge_R × Int)} (hI : jx_I0 n σ0 o C) {b : Int → Int} {t m : Int} (hb : jn_tc σ0 b t) (hbb : ∀ j, 0 ≤ j → j < t → 0 ≤ b j ∧ b j ≤ 255) (ht : 0 ≤ t ∧ t ≤ 260) (hm : m ≤ t) : ∀ (f : Nat) {σ : jw_H} {i : Int} {u v : Option jw_V}, 0 ≤ i → i + f = m → jn_cf σ0 σ → (∀ c, 0 ≤ c → c < i → b c = jn_due σ0 c) → jw_W (js_S n) D md_162 16 [some (.inr (.inr 13)), some (.inl m), some (.inl i), u, v] [] σ (fun r σ' => ∃ v, r = some (.inl v) ∧ jn_cf σ0 σ' ∧ ((v = -1 ∧ ∀ i, 0 ≤ i → i < m → b i = jn_due σ0 i) ∨ ((0 ≤ v ∧ v < m) ∧ b v ≠ jn_due σ0 v ∧ ∀ i, 0 ≤ i → i < v → b i = jn_due σ0 i)))
  | f, σ, i, u, v, i0, hk, hcf, H => by
    have ih : ∀ {σ' : jw_H} {u' v' : Option jw_V}, i < m → jn_cf σ0 σ' → (∀ c, 0 ≤ c → c < i + 1 → b c = jn_due σ0 c) → jw_W (js_S n) D md_162 16 [some (.inr (.inr 13)), some (.inl m), some (.inl (i + 1)), u', v'] [] σ' (fun r σ' => ∃ v, r = some (.inl v) ∧ jn_cf σ0 σ' ∧ ((v = -1 ∧ ∀ i, 0 ≤ i → i < m → b i = jn_due σ0 i) ∨ ((0 ≤ v ∧ v < m) ∧ b v ≠ jn_due σ0 v ∧ ∀ i, 0 ≤ i → i < v → b i = jn_due σ0 i))) := by
      intro σ' u' v' h1 h2 h3
      match f, hk with
      | 0, hk => omega
      | f + 1, hk => exact jx_check_loop hD hI hb hbb ht hm f (by omega) (by omega) h2 h3
    obtain ⟨-, -, -, -, -, -, -, hPm, hcb, e57, -⟩ := jx_I0_x hI
    have hcn := hcb.1
    have k0 : σ 57 0 = σ0 57 0 := by rw [hcf.1 57 (by omega) (by omega)]
    refine jw_W_n 2 (i' := 18) (ls' := [some (.inr (.inr 13)), some (.inl m), some (.inl i), u, v]) (st' := [.inl m, .inl i]) rfl ?_
    refine jw_W_ic rfl (by unfold jw_rg; omega) (by unfold jw_rg; omega) (fun hc1 => ?_) (fun hc1 => ?_)
    · have hc1 : i ≥ m := hc1
      refine jw_W_n 1 (i' := 59) (ls' := [some (.inr (.inr 13)), some (.inl m), some (.inl i), u, v]) (st' := [.inl ((-1))]) rfl ?_
      refine jw_W_ir rfl ?_
      have hkl : i = m := by omega
      subst hkl
      exact ⟨_, rfl, hcf, .inl ⟨rfl, H⟩⟩
    · have hc1 : ¬ (i ≥ m) := hc1
      refine jw_W_ld2 (z := 255) rfl rfl ?_
      refine jw_W_n 3 (i' := 23) (ls' := [some (.inr (.inr 13)), some (.inl m), some (.inl i), some (.inr (.inl 255)), none]) (st' := [.inr (.inr 13), .inl i]) rfl ?_
      refine jw_W_gf rfl rfl rfl ?_
      show jw_W (js_S n) _ md_162 24 [some (.inr (.inr 13)), some (.inl m), some (.inl i), some (.inr (.inl 255)), none] [.inr (.inr 57), .inl i] σ _
      refine jw_W_gf rfl rfl rfl ?_
      show jw_W (js_S n) _ md_162 25 [some (.inr (.inr 13)), some (.inl m), some (.inl i), some (.inr (.inl 255)), none] [.inl (σ 57 0), .inl i] σ _
      refine jw_W_ic rfl (by unfold jw_rg; omega) (by unfold jw_rg; omega) (fun hc2 => ?_) (fun hc2 => ?_)
      · have hc2 : i ≥ (σ 57 0) := hc2
        have hb14 : σ 14 i = b i := by rw [hcf.1 14 (by omega) (by omega)]; exact hb.2 i i0 (by omega)
        have hbr := hbb i i0 (by omega)
        have ed : jn_due σ0 i = 255 := by unfold jn_due; exact if_neg (by omega)
        refine jw_W_n 1 (i' := 47) (ls' := [some (.inr (.inr 13)), some (.inl m), some (.inl i), some (.inr (.inl 255)), none]) (st' := [.inr (.inr 13)]) rfl ?_
        refine jw_W_gf rfl rfl rfl ?_
        show jw_W (js_S n) _ md_162 48 [some (.inr (.inr 13)), some (.inl m), some (.inl i), some (.inr (.inl 255)), none] [.inr (.inr 14)] σ _
        refine jw_W_n 1 (i' := 49) (ls' := [some (.inr (.inr 13)), some (.inl m), some (.inl i), some (.inr (.inl 255)), none]) (st' := [.inl i, .inr (.inr 14)]) rfl ?_
        refine jw_W_ia rfl rfl (by omega) (by omega) (by omega) ?_
        show jw_W (js_S n) _ md_162 50 [some (.inr (.inr 13)), some (.inl m), some (.inl i), some (.inr (.inl 255)), none] [.inl (σ 14 i)] σ _
        refine jw_W_i2l rfl (by unfold jw_rg; omega) ?_
        refine jw_W_n 1 (i' := 52) (ls' := [some (.inr (.inr 13)), some (.inl m), some (.inl i), some (.inr (.inl 255)), none]) (st' := [.inr (.inl 255), .inr (.inl (σ 14 i))]) rfl ?_
        refine jw_W_lc rfl rfl (by unfold jw_rgl; omega) (by unfold jw_rgl; omega) (fun hc3 => ?_) (fun hc3 => ?_)
        · have hc3 : (σ 14 i) = 255 := hc3
          refine jw_W_n 2 (i' := 16) (ls' := [some (.inr (.inr 13)), some (.inl m), some (.inl (i + 1)), some (.inr (.inl 255)), none]) (st' := []) rfl ?_
          refine ih (by omega) hcf (fun c c0 c1 => ?_)
          by_cases ec : c = i
          · rw [ec]
            omega
          · exact H c c0 (by omega)
        · have hc3 : ¬ ((σ 14 i) = 255) := hc3
          refine jw_W_n 1 (i' := 55) (ls' := [some (.inr (.inr 13)), some (.inl m), some (.inl i), some (.inr (.inl 255)), none]) (st' := [.inl i]) rfl ?_
          refine jw_W_ir rfl ?_
          exact ⟨_, rfl, hcf, .inr ⟨by omega, by omega, H⟩⟩
      · have hc2 : ¬ (i ≥ (σ 57 0)) := hc2
        obtain ⟨g1, -, -⟩ := jx_I0_xyz hI (i := i) (by omega) (by omega)
        have g2 := jx_I0_d hI (i := i) (by omega) (by omega)
        have c1 := jm_cw hcb (i := i) (by omega) (by omega)
        have c2 : σ0 135 i ≤ 162 := (hcb.2 i (by omega) (by omega)).2
        have c3 : 0 ≤ σ0 132 i ∧ σ0 132 i ≤ 1458 := (hcb.2 i (by omega) (by omega)).1.1
        have k1 : σ 59 i = σ0 59 i := by rw [hcf.1 59 (by omega) (by omega)]
        have k2 : σ 62 i = σ0 62 i := by rw [hcf.1 62 (by omega) (by omega)]
        refine jw_W_n 2 (i' := 28) (ls' := [some (.inr (.inr 13)), some (.inl m), some (.inl i), some (.inr (.inl 255)), none]) (st' := [.inr (.inr 13), .inr (.inr 13)]) rfl ?_
        refine jw_W_gf rfl rfl rfl ?_
        show jw_W (js_S n) _ md_162 29 [some (.inr (.inr 13)), some (.inl m), some (.inl i), some (.inr (.inl 255)), none] [.inr (.inr 57), .inr (.inr 13)] σ _
        refine jw_W_gf rfl rfl rfl ?_
        show jw_W (js_S n) _ md_162 30 [some (.inr (.inr 13)), some (.inl m), some (.inl i), some (.inr (.inl 255)), none] [.inr (.inr 58), .inr (.inr 13)] σ _
        refine jw_W_gf rfl rfl rfl ?_
        show jw_W (js_S n) _ md_162 31 [some (.inr (.inr 13)), some (.inl m), some (.inl i), some (.inr (.inl 255)), none] [.inr (.inr 59), .inr (.inr 13)] σ _
        refine jw_W_n 1 (i' := 32) (ls' := [some (.inr (.inr 13)), some (.inl m), some (.inl i), some (.inr (.inl 255)), none]) (st' := [.inl i, .inr (.inr 59), .inr (.inr 13)]) rfl ?_
        refine jw_W_ia rfl rfl (by omega) (by omega) (by omega) ?_
        show jw_W (js_S n) _ md_162 33 [some (.inr (.inr 13)), some (.inl m), some (.inl i), some (.inr (.inl 255)), none] [.inl (σ 59 i), .inr (.inr 13)] σ _
        refine jw_W_i2l rfl (by unfold jw_rg; omega) ?_
        refine jw_W_n 1 (i' := 35) (ls' := [some (.inr (.inr 13)), some (.inl m), some (.inl i), some (.inr (.inl 255)), none]) (st' := [.inr (.inr 13), .inr (.inl (σ 59 i)), .inr (.inr 13)]) rfl ?_
        refine jw_W_gf rfl rfl rfl ?_
        show jw_W (js_S n) _ md_162 36 [some (.inr (.inr 13)), some (.inl m), some (.inl i), some (.inr (.inl 255)), none] [.inr (.inr 57), .inr (.inl (σ 59 i)), .inr (.inr 13)] σ _
        refine jw_W_gf rfl rfl rfl ?_
        show jw_W (js_S n) _ md_162 37 [some (.inr (.inr 13)), some (.inl m), some (.inl i), some (.inr (.inl 255)), none] [.inr (.inr 58), .inr (.inl (σ 59 i)), .inr (.inr 13)] σ _
        refine jw_W_gf rfl rfl rfl ?_
        show jw_W (js_S n) _ md_162 38 [some (.inr (.inr 13)), some (.inl m), some (.inl i), some (.inr (.inl 255)), none] [.inr (.inr 62), .inr (.inl (σ 59 i)), .inr (.inr 13)] σ _
        refine jw_W_n 1 (i' := 39) (ls' := [some (.inr (.inr 13)), some (.inl m), some (.inl i), some (.inr (.inl 255)), none]) (st' := [.inl i, .inr (.inr 62), .inr (.inl (σ 59 i)), .inr (.inr 13)]) rfl ?_
        refine jw_W_ia rfl rfl (by omega) (by omega) (by omega) ?_
        show jw_W (js_S n) _ md_162 40 [some (.inr (.inr 13)), some (.inl m), some (.inl i), some (.inr (.inl 255)), none] [.inl (σ 62 i), .inr (.inl (σ 59 i)), .inr (.inr 13)] σ _
        refine jw_W_i2l rfl (by unfold jw_rg; omega) ?_
        refine jw_W_n 1 (i' := 42) (ls' := [some (.inr (.inr 13)), some (.inl m), some (.inl i), some (.inr (.inl 255)), none]) (st' := [.inl 1, .inr (.inl (σ 62 i)), .inr (.inl (σ 59 i)), .inr (.inr 13)]) rfl ?_
        refine jw_W_call (as := [.inr (.inr 13), .inr (.inl (σ 59 i)), .inr (.inl (σ 62 i)), .inl 1]) (rest := []) rfl rfl rfl rfl (Nat.le_of_ble_eq_true rfl) (.inr rfl) (jx_partK (by unfold jm_bg; omega) (by omega) (by unfold jw_rg; omega)) (by omega) ?_ rfl
        rintro r1 σ1 ⟨rfl, hs⟩
        have hcf1 : jn_cf σ0 σ1 := by rw [hs]; exact jn_cf_fs hcf
        have hof := jn_of1 (u := σ 59 i) (l := σ 62 i) (by omega) (by omega)
        show jw_W (js_S n) _ md_162 43 [some (.inr (.inr 13)), some (.inl m), some (.inl i), some (.inr (.inl 255)), none] [.inr (.inl (jm_of (σ 59 i) (σ 62 i) 1))] σ1 _
        refine jw_W_ld2 (z := 255) rfl rfl ?_
        refine jw_W_n 1 (i' := 45) (ls' := [some (.inr (.inr 13)), some (.inl m), some (.inl i), some (.inr (.inl 255)), none]) (st' := [.inr (.inl (jw_land (jm_of (σ 59 i) (σ 62 i) 1) 255))]) rfl ?_
        rw [jn_land (by omega) (by omega)]
        have edue : jm_of (σ 59 i) (σ 62 i) 1 % 256 = jn_due σ0 i := by unfold jn_due; rw [if_pos (by omega), k1, k2, g1, g2]
        rw [edue]
        have hd255 : 0 ≤ jn_due σ0 i ∧ jn_due σ0 i ≤ 255 := by omega
        refine jw_W_n 1 (i' := 46) (ls' := [some (.inr (.inr 13)), some (.inl m), some (.inl i), some (.inr (.inl (jn_due σ0 i))), none]) (st' := []) rfl ?_
        have hb14 : σ1 14 i = b i := by rw [hcf1.1 14 (by omega) (by omega)]; exact hb.2 i i0 (by omega)
        have hbr := hbb i i0 (by omega)
        refine jw_W_n 1 (i' := 47) (ls' := [some (.inr (.inr 13)), some (.inl m), some (.inl i), some (.inr (.inl (jn_due σ0 i))), none]) (st' := [.inr (.inr 13)]) rfl ?_
        refine jw_W_gf rfl rfl rfl ?_
        show jw_W (js_S n) _ md_162 48 [some (.inr (.inr 13)), some (.inl m), some (.inl i), some (.inr (.inl (jn_due σ0 i))), none] [.inr (.inr 14)] σ1 _
        refine jw_W_n 1 (i' := 49) (ls' := [some (.inr (.inr 13)), some (.inl m), some (.inl i), some (.inr (.inl (jn_due σ0 i))), none]) (st' := [.inl i, .inr (.inr 14)]) rfl ?_
        refine jw_W_ia rfl rfl (by omega) (by omega) (by omega) ?_
        show jw_W (js_S n) _ md_162 50 [some (.inr (.inr 13)), some (.inl m), some (.inl i), some (.inr (.inl (jn_due σ0 i))), none] [.inl (σ1 14 i)] σ1 _
        refine jw_W_i2l rfl (by unfold jw_rg; omega) ?_
        refine jw_W_n 1 (i' := 52) (ls' := [some (.inr (.inr 13)), some (.inl m), some (.inl i), some (.inr (.inl (jn_due σ0 i))), none]) (st' := [.inr (.inl (jn_due σ0 i)), .inr (.inl (σ1 14 i))]) rfl ?_
        refine jw_W_lc rfl rfl (by unfold jw_rgl; omega) (by unfold jw_rgl; omega) (fun hc4 => ?_) (fun hc4 => ?_)
        · have hc4 : (σ1 14 i) = (jn_due σ0 i) := hc4
          refine jw_W_n 2 (i' := 16) (ls' := [some (.inr (.inr 13)), some (.inl m), some (.inl (i + 1)), some (.inr (.inl (jn_due σ0 i))), none]) (st' := []) rfl ?_
          refine ih (by omega) hcf1 (fun c c0 c1 => ?_)
          by_cases ec : c = i
          · rw [ec]
            omega
          · exact H c c0 (by omega)
        · have hc4 : ¬ ((σ1 14 i) = (jn_due σ0 i)) := hc4
          refine jw_W_n 1 (i' := 55) (ls' := [some (.inr (.inr 13)), some (.inl m), some (.inl i), some (.inr (.inl (jn_due σ0 i))), none]) (st' := [.inl i]) rfl ?_
          refine jw_W_ir rfl ?_
          exact ⟨_, rfl, hcf1, .inr ⟨by omega, by omega, H⟩⟩
theorem jx_check {n : Nat} {σ : jw_H} {o : Nat} {C : List (ge_R × Int)} (hI : jx_I0 n σ o C) {b : Int → Int} {t m : Int} (hb : jn_tc σ b t) (hbb : ∀ j, 0 ≤ j → j < t → 0 ≤ b j ∧ b j ≤ 255) (ht : 0 ≤ t ∧ t ≤ 260) (hm : jw_rg m) : jw_T (js_S n) 4 162 [.inr (.inr 13), .inl m] σ (fun r σ' => (r = some (.inl (-2)) ∧ σ' = σ ∧ ¬ ((0 ≤ m ∧ m ≤ 60) ∧ m ≤ t)) ∨ ∃ v, r = some (.inl v) ∧ jn_cf σ σ' ∧ jn_cka σ b t m v ∧ ((0 ≤ m ∧ m ≤ 60) ∧ m ≤ t)) := by
  refine jw_T_of (D := 3) (M := mm_162) rfl (Nat.le_of_ble_eq_true rfl) (ls0 := [some (.inr (.inr 13)), some (.inl m), none, none, none]) rfl ?_ (by rintro _ _ (⟨rfl, -⟩ | ⟨_, rfl, -⟩) <;> rfl)
  have hb1 := hb.1
  have rhm := hm
  unfold jw_rg at rhm
  refine jw_W_n 1 (i' := 1) (ls' := [some (.inr (.inr 13)), some (.inl m), none, none, none]) (st' := [.inl m]) rfl ?_
  refine jw_W_if rfl (by unfold jw_rg; omega) (fun hc1 => ?_) (fun hc1 => ?_)
  · have hc1 : m < 0 := hc1
    refine jw_W_n 1 (i' := 10) (ls' := [some (.inr (.inr 13)), some (.inl m), none, none, none]) (st' := [.inl ((-2))]) rfl ?_
    refine jw_W_ir rfl ?_
    exact .inl ⟨rfl, rfl, by omega⟩
  · have hc1 : ¬ (m < 0) := hc1
    refine jw_W_n 2 (i' := 4) (ls' := [some (.inr (.inr 13)), some (.inl m), none, none, none]) (st' := [.inl 60, .inl m]) rfl ?_
    refine jw_W_ic rfl (by unfold jw_rg; omega) (by unfold jw_rg; omega) (fun hc2 => ?_) (fun hc2 => ?_)
    · have hc2 : m > 60 := hc2
      refine jw_W_n 1 (i' := 10) (ls' := [some (.inr (.inr 13)), some (.inl m), none, none, none]) (st' := [.inl ((-2))]) rfl ?_
      refine jw_W_ir rfl ?_
      exact .inl ⟨rfl, rfl, by omega⟩
    · have hc2 : ¬ (m > 60) := hc2
      refine jw_W_n 2 (i' := 7) (ls' := [some (.inr (.inr 13)), some (.inl m), none, none, none]) (st' := [.inr (.inr 13), .inl m]) rfl ?_
      refine jw_W_gf rfl rfl rfl ?_
      show jw_W (js_S n) _ md_162 8 [some (.inr (.inr 13)), some (.inl m), none, none, none] [.inl (σ 13 1), .inl m] σ _
      refine jw_W_ic rfl (by unfold jw_rg; omega) (by unfold jw_rg; omega) (fun hc3 => ?_) (fun hc3 => ?_)
      · have hc3 : m ≤ (σ 13 1) := hc3
        refine jw_W_n 2 (i' := 13) (ls' := [some (.inr (.inr 13)), some (.inl m), none, none, none]) (st' := [.inl 0, .inr (.inr 13)]) rfl ?_
        refine jw_W_pf (a := 0) rfl (by omega) rfl rfl rfl rfl rfl ?_
        refine jw_W_n 2 (i' := 16) (ls' := [some (.inr (.inr 13)), some (.inl m), some (.inl 0), none, none]) (st' := []) rfl ?_
        refine jw_W_mono (jx_check_loop (D := 3) (by omega) hI hb hbb ht (by omega) m.toNat (i := 0) (by omega) (by omega) ⟨fun c h1 h2 => jw_up_out _ _ _ h1, fun j hj => jw_up_ne _ (by omega), jw_up_eq _ _ _ _⟩ (fun c c0 c1 => by omega)) ?_
        rintro r σ' ⟨v, rfl, hc, hv⟩
        exact .inr ⟨v, rfl, hc, .inr ⟨by omega, hv⟩, by omega⟩
      · have hc3 : ¬ (m ≤ (σ 13 1)) := hc3
        refine jw_W_n 1 (i' := 10) (ls' := [some (.inr (.inr 13)), some (.inl m), none, none, none]) (st' := [.inl ((-2))]) rfl ?_
        refine jw_W_ir rfl ?_
        exact .inl ⟨rfl, rfl, by omega⟩
theorem jn_oct {a c : Int} (h : a % 256 = c ∧ -128 ≤ a ∧ a ≤ 127) : jw_and a 255 = c := by
  have e : a = (Int32.ofInt a).toInt := (jw_n_id (by unfold jw_rg; omega)).symm
  rw [e, jn_toI, jn_u32 (by unfold jw_rg; omega)]
  omega
theorem jm_octet {n : Nat} {σ : jw_H} {b : Int → Int} {t i : Int} (hb : jn_tm σ b t) (ht : t ≤ 260) (i0 : 0 ≤ i) (i1 : i < t) : jw_T (js_S n) 1 185 [.inr (.inr 103), .inl i] σ (fun r σ' => r = some (.inl (b i)) ∧ σ' = σ) := by
  refine jw_T_of (D := 0) (M := mm_185) rfl (Nat.le_of_ble_eq_true rfl) (ls0 := [some (.inr (.inr 103)), some (.inl i)]) rfl ?_ (by rintro _ _ ⟨rfl, -⟩; rfl)
  have hb1 := hb.1
  refine jw_W_n 1 (i' := 1) (ls' := [some (.inr (.inr 103)), some (.inl i)]) (st' := [.inr (.inr 103)]) rfl ?_
  refine jw_W_gf rfl rfl rfl ?_
  show jw_W (js_S n) _ md_185 2 [some (.inr (.inr 103)), some (.inl i)] [.inr (.inr 107)] σ _
  refine jw_W_n 1 (i' := 3) (ls' := [some (.inr (.inr 103)), some (.inl i)]) (st' := [.inl i, .inr (.inr 107)]) rfl ?_
  refine jw_W_ba rfl rfl (by decide) (by omega) (by omega) (by omega) ?_
  show jw_W (js_S n) _ md_185 4 [some (.inr (.inr 103)), some (.inl i)] [.inl (σ 107 i)] σ _
  refine jw_W_n 2 (i' := 6) (ls' := [some (.inr (.inr 103)), some (.inl i)]) (st' := [.inl (jw_and (σ 107 i) 255)]) rfl ?_
  have h6 := jn_oct (hb.2 i i0 i1)
  rw [h6]
  refine jw_W_ir rfl ?_
  exact ⟨rfl, rfl⟩
theorem jm_check_loop {n : Nat} {σ : jw_H} {D : Nat} (hD : 3 ≤ D) {C : List (ge_R × Int)} (hKN : jm_KN σ C) {b : Int → Int} {t m : Int} (hb : jn_tm σ b t) (hbb : ∀ j, 0 ≤ j → j < t → 0 ≤ b j ∧ b j ≤ 255) (ht : 0 ≤ t ∧ t ≤ 260) (hm : m ≤ t) : ∀ (f : Nat) {i w : Int} {u v : Option jw_V}, i + 1 = f → i < m → ((w = -1 ∧ ∀ c, i < c → c < m → b c = jn_due σ c) ∨ ((i < w ∧ w < m) ∧ b w ≠ jn_due σ w ∧ ∀ c, i < c → c < w → b c = jn_due σ c)) → jw_W (js_S n) D md_333 17 [some (.inr (.inr 103)), some (.inl m), some (.inl w), some (.inl i), u, v] [] σ (fun r σ' => ∃ v, r = some (.inl v) ∧ σ' = jw_up σ 103 7 0 ∧ ((v = -1 ∧ ∀ i, 0 ≤ i → i < m → b i = jn_due σ i) ∨ ((0 ≤ v ∧ v < m) ∧ b v ≠ jn_due σ v ∧ ∀ i, 0 ≤ i → i < v → b i = jn_due σ i)))
  | f, i, w, u, v, hk, hm1, H => by
    have ih : ∀ {w' : Int} {u' v' : Option jw_V}, 0 ≤ i → ((w' = -1 ∧ ∀ c, (i + -1) < c → c < m → b c = jn_due σ c) ∨ (((i + -1) < w' ∧ w' < m) ∧ b w' ≠ jn_due σ w' ∧ ∀ c, (i + -1) < c → c < w' → b c = jn_due σ c)) → jw_W (js_S n) D md_333 17 [some (.inr (.inr 103)), some (.inl m), some (.inl w'), some (.inl (i + -1)), u', v'] [] σ (fun r σ' => ∃ v, r = some (.inl v) ∧ σ' = jw_up σ 103 7 0 ∧ ((v = -1 ∧ ∀ i, 0 ≤ i → i < m → b i = jn_due σ i) ∨ ((0 ≤ v ∧ v < m) ∧ b v ≠ jn_due σ v ∧ ∀ i, 0 ≤ i → i < v → b i = jn_due σ i))) := by
      intro w' u' v' h1 h2
      match f, hk with
      | 0, hk => omega
      | f + 1, hk => exact jm_check_loop hD hKN hb hbb ht hm f (by omega) (by omega) h2
    have hcb := (jm_kw_cbd hKN.1).2 σ (jm_fk_rf σ)
    have hcn := hcb.1
    have hPm := hKN.1.1
    have hqq := hPm.1
    have hww := hPm.2.1
    have hkk := hPm.2.2.1
    have hg57 := hKN.2.2.1.1
    have hg58 := hKN.2.2.2.1.1
    refine jw_W_n 1 (i' := 18) (ls' := [some (.inr (.inr 103)), some (.inl m), some (.inl w), some (.inl i), u, v]) (st' := [.inl i]) rfl ?_
    refine jw_W_if rfl (by unfold jw_rg; omega) (fun hc1 => ?_) (fun hc1 => ?_)
    · have hc1 : i < 0 := hc1
      refine jw_W_n 2 (i' := 51) (ls' := [some (.inr (.inr 103)), some (.inl m), some (.inl w), some (.inl i), u, v]) (st' := [.inl 0, .inr (.inr 103)]) rfl ?_
      refine jw_W_pf (a := 0) rfl (by omega) rfl rfl rfl rfl rfl ?_
      refine jw_W_n 1 (i' := 53) (ls' := [some (.inr (.inr 103)), some (.inl m), some (.inl w), some (.inl i), u, v]) (st' := [.inl w]) rfl ?_
      refine jw_W_ir rfl ?_
      have hkl : i = -1 := by omega
      subst hkl
      refine ⟨_, rfl, rfl, ?_⟩
      rcases H with ⟨h1, h2⟩ | ⟨h1, h2, h3⟩
      · exact .inl ⟨h1, fun c c0 c1 => h2 c (by omega) c1⟩
      · exact .inr ⟨by omega, h2, fun c c0 c1 => h3 c (by omega) c1⟩
    · have hc1 : ¬ (i < 0) := hc1
      refine jw_W_n 2 (i' := 21) (ls' := [some (.inr (.inr 103)), some (.inl m), some (.inl w), some (.inl i), u, v]) (st' := [.inr (.inr 103), .inl i]) rfl ?_
      refine jw_W_gf rfl rfl rfl ?_
      show jw_W (js_S n) _ md_333 22 [some (.inr (.inr 103)), some (.inl m), some (.inl w), some (.inl i), u, v] [.inl (σ 103 56), .inl i] σ _
      refine jw_W_ic rfl (by unfold jw_rg; omega) (by unfold jw_rg; omega) (fun hc2 => ?_) (fun hc2 => ?_)
      · have hc2 : i ≥ (σ 103 56) := hc2
        refine jw_W_ld2 (z := 255) rfl rfl ?_
        have ed : jn_due σ i = 255 := by unfold jn_due; exact if_neg (by omega)
        rw [← ed]
        refine jw_W_n 3 (i' := 40) (ls' := [some (.inr (.inr 103)), some (.inl m), some (.inl w), some (.inl i), some (.inr (.inl (jn_due σ i))), none]) (st' := [.inl i, .inr (.inr 103)]) rfl ?_
        refine jw_W_call (as := [.inr (.inr 103), .inl i]) (rest := []) rfl rfl rfl rfl (Nat.le_of_ble_eq_true rfl) (.inr rfl) (jm_octet hb (by omega) (i := i) (by omega) (by omega)) (by omega) ?_ rfl
        rintro r1 σz ⟨rfl, hs⟩
        rw [hs]
        have hbr := hbb i (by omega) (by omega)
        show jw_W (js_S n) _ md_333 41 [some (.inr (.inr 103)), some (.inl m), some (.inl w), some (.inl i), some (.inr (.inl (jn_due σ i))), none] [.inl (b i)] σ _
        refine jw_W_i2l rfl (by unfold jw_rg; omega) ?_
        refine jw_W_n 1 (i' := 43) (ls' := [some (.inr (.inr 103)), some (.inl m), some (.inl w), some (.inl i), some (.inr (.inl (jn_due σ i))), none]) (st' := [.inr (.inl (jn_due σ i)), .inr (.inl (b i))]) rfl ?_
        refine jw_W_lc rfl rfl (by unfold jw_rgl; omega) (by unfold jw_rgl; omega) (fun hc3 => ?_) (fun hc3 => ?_)
        · have hc3 : (b i) = (jn_due σ i) := hc3
          refine jw_W_n 2 (i' := 17) (ls' := [some (.inr (.inr 103)), some (.inl m), some (.inl w), some (.inl (i + ((-1)))), some (.inr (.inl (jn_due σ i))), none]) (st' := []) rfl ?_
          refine ih (by omega) ?_
          rcases H with ⟨h1, h2⟩ | ⟨h1, h2, h3⟩
          · refine .inl ⟨h1, fun c c0 c1 => ?_⟩
            by_cases ec : c = i
            · rw [ec]
              omega
            · exact h2 c (by omega) c1
          · refine .inr ⟨by omega, h2, fun c c0 c1 => ?_⟩
            by_cases ec : c = i
            · rw [ec]
              omega
            · exact h3 c (by omega) c1
        · have hc3 : ¬ ((b i) = (jn_due σ i)) := hc3
          refine jw_W_n 4 (i' := 17) (ls' := [some (.inr (.inr 103)), some (.inl m), some (.inl i), some (.inl (i + ((-1)))), some (.inr (.inl (jn_due σ i))), none]) (st' := []) rfl ?_
          refine ih (by omega) (.inr ⟨by omega, by omega, fun c c0 c1 => by omega⟩)
      · have hc2 : ¬ (i ≥ (σ 103 56)) := hc2
        have c1 := jm_cw hcb (i := i) (by omega) (by omega)
        have c2 : σ 135 i ≤ 162 := (hcb.2 i (by omega) (by omega)).2
        have c3 : 0 ≤ σ 132 i ∧ σ 132 i ≤ 1458 := (hcb.2 i (by omega) (by omega)).1.1
        refine jw_W_n 1 (i' := 24) (ls' := [some (.inr (.inr 103)), some (.inl m), some (.inl w), some (.inl i), u, v]) (st' := [.inr (.inr 103)]) rfl ?_
        refine jw_W_gf rfl rfl rfl ?_
        show jw_W (js_S n) _ md_333 25 [some (.inr (.inr 103)), some (.inl m), some (.inl w), some (.inl i), u, v] [.inr (.inr 132)] σ _
        refine jw_W_n 1 (i' := 26) (ls' := [some (.inr (.inr 103)), some (.inl m), some (.inl w), some (.inl i), u, v]) (st' := [.inl i, .inr (.inr 132)]) rfl ?_
        refine jw_W_la rfl rfl (by omega) (by omega) (by omega) ?_
        show jw_W (js_S n) _ md_333 27 [some (.inr (.inr 103)), some (.inl m), some (.inl w), some (.inl i), u, v] [.inr (.inl (σ 132 i))] σ _
        refine jw_W_n 1 (i' := 28) (ls' := [some (.inr (.inr 103)), some (.inl m), some (.inl w), some (.inl i), u, v]) (st' := [.inr (.inr 103), .inr (.inl (σ 132 i))]) rfl ?_
        refine jw_W_gf rfl rfl rfl ?_
        show jw_W (js_S n) _ md_333 29 [some (.inr (.inr 103)), some (.inl m), some (.inl w), some (.inl i), u, v] [.inr (.inr 135), .inr (.inl (σ 132 i))] σ _
        refine jw_W_n 1 (i' := 30) (ls' := [some (.inr (.inr 103)), some (.inl m), some (.inl w), some (.inl i), u, v]) (st' := [.inl i, .inr (.inr 135), .inr (.inl (σ 132 i))]) rfl ?_
        refine jw_W_la rfl rfl (by omega) (by omega) (by omega) ?_
        show jw_W (js_S n) _ md_333 31 [some (.inr (.inr 103)), some (.inl m), some (.inl w), some (.inl i), u, v] [.inr (.inl (σ 135 i)), .inr (.inl (σ 132 i))] σ _
        refine jw_W_n 1 (i' := 32) (ls' := [some (.inr (.inr 103)), some (.inl m), some (.inl w), some (.inl i), u, v]) (st' := [.inl 1, .inr (.inl (σ 135 i)), .inr (.inl (σ 132 i))]) rfl ?_
        refine jw_W_call (as := [.inr (.inl (σ 132 i)), .inr (.inl (σ 135 i)), .inl 1]) (rest := []) rfl rfl rfl rfl (Nat.le_of_ble_eq_true rfl) (.inl rfl) (jm_ofFr (by unfold jm_bg; omega) (by omega) (by omega) (by unfold jw_rg; omega)) (by omega) ?_ rfl
        rintro r1 σz ⟨rfl, hs⟩
        rw [hs]
        have hof := jn_of1 (u := σ 132 i) (l := σ 135 i) c1 (by omega)
        show jw_W (js_S n) _ md_333 33 [some (.inr (.inr 103)), some (.inl m), some (.inl w), some (.inl i), u, v] [.inr (.inl (jm_of (σ 132 i) (σ 135 i) 1))] σ _
        refine jw_W_ld2 (z := 256) rfl rfl ?_
        refine jw_W_lrem rfl (by unfold jw_rgl; omega) (by omega) ?_
        rw [jm_lrem (by omega) (by omega) (by omega) (by omega)]
        have edue : jm_of (σ 132 i) (σ 135 i) 1 % 256 = jn_due σ i := by unfold jn_due; exact (if_pos (by omega)).symm
        rw [edue]
        have hd255 : 0 ≤ jn_due σ i ∧ jn_due σ i ≤ 255 := by omega
        refine jw_W_n 1 (i' := 37) (ls' := [some (.inr (.inr 103)), some (.inl m), some (.inl w), some (.inl i), u, v]) (st' := [.inr (.inl (jn_due σ i))]) rfl ?_
        refine jw_W_n 3 (i' := 40) (ls' := [some (.inr (.inr 103)), some (.inl m), some (.inl w), some (.inl i), some (.inr (.inl (jn_due σ i))), none]) (st' := [.inl i, .inr (.inr 103)]) rfl ?_
        refine jw_W_call (as := [.inr (.inr 103), .inl i]) (rest := []) rfl rfl rfl rfl (Nat.le_of_ble_eq_true rfl) (.inr rfl) (jm_octet hb (by omega) (i := i) (by omega) (by omega)) (by omega) ?_ rfl
        rintro r1 σz ⟨rfl, hs⟩
        rw [hs]
        have hbr := hbb i (by omega) (by omega)
        show jw_W (js_S n) _ md_333 41 [some (.inr (.inr 103)), some (.inl m), some (.inl w), some (.inl i), some (.inr (.inl (jn_due σ i))), none] [.inl (b i)] σ _
        refine jw_W_i2l rfl (by unfold jw_rg; omega) ?_
        refine jw_W_n 1 (i' := 43) (ls' := [some (.inr (.inr 103)), some (.inl m), some (.inl w), some (.inl i), some (.inr (.inl (jn_due σ i))), none]) (st' := [.inr (.inl (jn_due σ i)), .inr (.inl (b i))]) rfl ?_
        refine jw_W_lc rfl rfl (by unfold jw_rgl; omega) (by unfold jw_rgl; omega) (fun hc4 => ?_) (fun hc4 => ?_)
        · have hc4 : (b i) = (jn_due σ i) := hc4
          refine jw_W_n 2 (i' := 17) (ls' := [some (.inr (.inr 103)), some (.inl m), some (.inl w), some (.inl (i + ((-1)))), some (.inr (.inl (jn_due σ i))), none]) (st' := []) rfl ?_
          refine ih (by omega) ?_
          rcases H with ⟨h1, h2⟩ | ⟨h1, h2, h3⟩
          · refine .inl ⟨h1, fun c c0 c1 => ?_⟩
            by_cases ec : c = i
            · rw [ec]
              omega
            · exact h2 c (by omega) c1
          · refine .inr ⟨by omega, h2, fun c c0 c1 => ?_⟩
            by_cases ec : c = i
            · rw [ec]
              omega
            · exact h3 c (by omega) c1
        · have hc4 : ¬ ((b i) = (jn_due σ i)) := hc4
          refine jw_W_n 4 (i' := 17) (ls' := [some (.inr (.inr 103)), some (.inl m), some (.inl i), some (.inl (i + ((-1)))), some (.inr (.inl (jn_due σ i))), none]) (st' := []) rfl ?_
          refine ih (by omega) (.inr ⟨by omega, by omega, fun c c0 c1 => by omega⟩)
theorem jm_check {n : Nat} {σ : jw_H} {C : List (ge_R × Int)} (hKN : jm_KN σ C) {b : Int → Int} {t m : Int} (hb : jn_tm σ b t) (hbb : ∀ j, 0 ≤ j → j < t → 0 ≤ b j ∧ b j ≤ 255) (ht : 0 ≤ t ∧ t ≤ 260) (hm : jw_rg m) : jw_T (js_S n) 4 333 [.inr (.inr 103), .inl m] σ (fun r σ' => (r = some (.inl (-2)) ∧ σ' = σ ∧ ¬ ((0 ≤ m ∧ m ≤ 60) ∧ m ≤ t)) ∨ ∃ v, r = some (.inl v) ∧ σ' = jw_up σ 103 7 0 ∧ jn_cka σ b t m v ∧ ((0 ≤ m ∧ m ≤ 60) ∧ m ≤ t)) := by
  refine jw_T_of (D := 3) (M := mm_333) rfl (Nat.le_of_ble_eq_true rfl) (ls0 := [some (.inr (.inr 103)), some (.inl m), none, none, none, none]) rfl ?_ (by rintro _ _ (⟨rfl, -⟩ | ⟨_, rfl, -⟩) <;> rfl)
  have hb1 := hb.1
  have rhm := hm
  unfold jw_rg at rhm
  refine jw_W_n 3 (i' := 3) (ls' := [some (.inr (.inr 103)), some (.inl m), none, none, none, none]) (st' := [.inl 60, .inl 0, .inl m]) rfl ?_
  refine jw_W_call (as := [.inl m, .inl 0, .inl 60]) (rest := []) rfl rfl rfl rfl (Nat.le_of_ble_eq_true rfl) (.inl rfl) (jm_in (by unfold jw_rg; omega) (by unfold jw_rg; omega) (by unfold jw_rg; omega)) (by omega) ?_ rfl
  rintro r1 σz (⟨rfl, hs, q1⟩ | ⟨rfl, hs, q1⟩)
  · rw [hs]
    show jw_W (js_S n) _ md_333 4 [some (.inr (.inr 103)), some (.inl m), none, none, none, none] [.inl 1] σ _
    refine jw_W_if rfl (by unfold jw_rg; omega) (fun hc1 => ?_) (fun hc1 => ?_)
    · exact absurd hc1 (show ¬ ((1 : Int) = 0) by omega)
    · clear hc1
      refine jw_W_n 2 (i' := 7) (ls' := [some (.inr (.inr 103)), some (.inl m), none, none, none, none]) (st' := [.inr (.inr 103), .inl m]) rfl ?_
      refine jw_W_gf rfl rfl rfl ?_
      show jw_W (js_S n) _ md_333 8 [some (.inr (.inr 103)), some (.inl m), none, none, none, none] [.inl (σ 103 7), .inl m] σ _
      refine jw_W_ic rfl (by unfold jw_rg; omega) (by unfold jw_rg; omega) (fun hc2 => ?_) (fun hc2 => ?_)
      · have hc2 : m ≤ (σ 103 7) := hc2
        refine jw_W_n 6 (i' := 17) (ls' := [some (.inr (.inr 103)), some (.inl m), some (.inl ((-1))), some (.inl (m - 1)), none, none]) (st' := []) rfl ?_
        refine jw_W_mono (jm_check_loop (D := 3) (by omega) hKN hb hbb ht (by omega) m.toNat (i := m - 1) (w := -1) (by omega) (by omega) (.inl ⟨rfl, fun c c0 c1 => by omega⟩)) ?_
        rintro r σ' ⟨v, rfl, hc, hv⟩
        exact .inr ⟨v, rfl, hc, .inr ⟨by omega, hv⟩, by omega⟩
      · have hc2 : ¬ (m ≤ (σ 103 7)) := hc2
        refine jw_W_n 1 (i' := 10) (ls' := [some (.inr (.inr 103)), some (.inl m), none, none, none, none]) (st' := [.inl ((-2))]) rfl ?_
        refine jw_W_ir rfl ?_
        exact .inl ⟨rfl, rfl, by omega⟩
  · rw [hs]
    show jw_W (js_S n) _ md_333 4 [some (.inr (.inr 103)), some (.inl m), none, none, none, none] [.inl 0] σ _
    refine jw_W_if rfl (by unfold jw_rg; omega) (fun hc3 => ?_) (fun hc3 => ?_)
    · clear hc3
      refine jw_W_n 1 (i' := 10) (ls' := [some (.inr (.inr 103)), some (.inl m), none, none, none, none]) (st' := [.inl ((-2))]) rfl ?_
      refine jw_W_ir rfl ?_
      exact .inl ⟨rfl, rfl, by omega⟩
    · exact absurd hc3 (show ¬ ¬ ((0 : Int) = 0) by omega)

/-! ===== faces: class and reference ===== -/
/-- three corners in unlike places do not lie in a line -/
theorem ge_noline {R : List ge_R} {x y z : ge_R} (hx : ge_V R x) (hy : ge_V R y) (hz : ge_V R z) (n1 : ¬ ge_e x y) (n2 : ¬ ge_e x z) (n3 : ¬ ge_e y z) : ge_nz (jm_X (ge_to x y) (ge_to x z)) := by
  refine Classical.byContradiction (fun hn => ?_)
  have hn := Classical.not_not.mp hn
  have wx := hx.1.1
  have wy := hy.1.1
  have wz := hz.1.1
  have hu : ge_nz (ge_to x y) := Classical.not_not.mp (fun h => n1 (ge_to_z.mpr h))
  have hv : ge_nz (ge_to x z) := Classical.not_not.mp (fun h => n2 (ge_to_z.mpr h))
  -- numbers a, b with a u = b v
  have key : ∃ a b : Int, a ≠ 0 ∧ b ≠ 0 ∧ a * (ge_to x y).1 = b * (ge_to x z).1 ∧ a * (ge_to x y).2.1 = b * (ge_to x z).2.1 ∧ a * (ge_to x y).2.2 = b * (ge_to x z).2.2 := by
    generalize ge_to x y = u at *
    generalize ge_to x z = v at *
    obtain ⟨u1, u2, u3⟩ := u
    obtain ⟨v1, v2, v3⟩ := v
    simp only [jm_X] at hn
    unfold ge_nz at hu hv
    simp only at hu hv hn ⊢
    have pick : ∀ p q r s t w : Int, p ≠ 0 → p * t = r * s → p * w = q * s → (s = 0 → t = 0 ∧ w = 0) := fun p q r s t w hp h1 h2 hs => by
      rw [hs, Int.mul_zero] at h1 h2
      exact ⟨(Int.mul_eq_zero.mp h1).resolve_left hp, (Int.mul_eq_zero.mp h2).resolve_left hp⟩
    by_cases c1 : u1 = 0
    · by_cases c2 : u2 = 0
      · have c3 : u3 ≠ 0 := fun c3 => hu ⟨c1, c2, c3⟩
        refine ⟨v3, u3, fun hs => ?_, c3, by grind, by grind, by grind⟩
        have := pick u3 u1 u2 v3 v2 v1 c3 (by grind) (by grind) hs
        exact hv ⟨this.2, this.1, hs⟩
      · refine ⟨v2, u2, fun hs => ?_, c2, by grind, by grind, by grind⟩
        have := pick u2 u1 u3 v2 v3 v1 c2 (by grind) (by grind) hs
        exact hv ⟨this.2, hs, this.1⟩
    · refine ⟨v1, u1, fun hs => ?_, c1, by grind, by grind, by grind⟩
      have := pick u1 u2 u3 v1 v3 v2 c1 (by grind) (by grind) hs
      exact hv ⟨hs, this.2, this.1⟩
  -- like signs: one of y, z is amid; unlike: x is
  have fin : ∀ a b : Int, 0 < b → a ≠ 0 → a * (ge_to x y).1 = b * (ge_to x z).1 → a * (ge_to x y).2.1 = b * (ge_to x z).2.1 → a * (ge_to x y).2.2 = b * (ge_to x z).2.2 → False := by
    intro a b hb ha h1 h2 h3
    by_cases hs : a < 0
    · exact n1 (ge_amid hx hy.1 hz.1 (a := -a) (b := b) (by omega) hb (by grind) (by grind) (by grind))
    · have e1 : b * x.2.2.2 * (ge_to y z).1 = (a * y.2.2.2 - b * z.2.2.2) * (ge_to x y).1 := by
        simp only [ge_to] at *
        grind
      have e2 : b * x.2.2.2 * (ge_to y z).2.1 = (a * y.2.2.2 - b * z.2.2.2) * (ge_to x y).2.1 := by
        simp only [ge_to] at *
        grind
      have e3 : b * x.2.2.2 * (ge_to y z).2.2 = (a * y.2.2.2 - b * z.2.2.2) * (ge_to x y).2.2 := by
        simp only [ge_to] at *
        grind
      have o1 : (ge_to y x).1 = -(ge_to x y).1 ∧ (ge_to y x).2.1 = -(ge_to x y).2.1 ∧ (ge_to y x).2.2 = -(ge_to x y).2.2 := by
        simp only [ge_to]
        omega
      have o2 : (ge_to z x).1 = -(ge_to x z).1 ∧ (ge_to z x).2.1 = -(ge_to x z).2.1 ∧ (ge_to z x).2.2 = -(ge_to x z).2.2 := by
        simp only [ge_to]
        omega
      have o3 : (ge_to z y).1 = -(ge_to y z).1 ∧ (ge_to z y).2.1 = -(ge_to y z).2.1 ∧ (ge_to z y).2.2 = -(ge_to y z).2.2 := by
        simp only [ge_to]
        omega
      have hbx : 0 < b * x.2.2.2 := Int.mul_pos hb wx
      have hax : 0 < a * x.2.2.2 := Int.mul_pos (by omega) wx
      by_cases c : 0 < a * y.2.2.2 - b * z.2.2.2
      · exact n1 (ge_e_sym (ge_amid hy hx.1 hz.1 (a := a * y.2.2.2 - b * z.2.2.2) (b := b * x.2.2.2) c hbx (by rw [o1.1]; grind) (by rw [o1.2.1]; grind) (by rw [o1.2.2]; grind)))
      · by_cases c2 : a * y.2.2.2 - b * z.2.2.2 = 0
        · rw [c2, Int.zero_mul] at e1 e2 e3
          refine n3 (ge_to_z.mpr (fun hh => hh ⟨?_, ?_, ?_⟩))
          · exact (Int.mul_eq_zero.mp e1).resolve_left (by omega)
          · exact (Int.mul_eq_zero.mp e2).resolve_left (by omega)
          · exact (Int.mul_eq_zero.mp e3).resolve_left (by omega)
        · have cancel : ∀ p q u v w : Int, a * u = b * v → b * x.2.2.2 * w = (a * y.2.2.2 - b * z.2.2.2) * u → a * x.2.2.2 * w = (a * y.2.2.2 - b * z.2.2.2) * v := by
            intro p q u v w g1 g2
            have g3 : b * (a * x.2.2.2 * w) = b * ((a * y.2.2.2 - b * z.2.2.2) * v) := by
              have : b * (a * x.2.2.2 * w) = a * (b * x.2.2.2 * w) := by grind
              rw [this, g2]
              have : a * ((a * y.2.2.2 - b * z.2.2.2) * u) = (a * y.2.2.2 - b * z.2.2.2) * (a * u) := by grind
              rw [this, g1]
              grind
            exact Int.eq_of_mul_eq_mul_left (by omega) g3
          have f1 := cancel 0 0 _ _ _ h1 e1
          have f2 := cancel 0 0 _ _ _ h2 e2
          have f3 := cancel 0 0 _ _ _ h3 e3
          exact n2 (ge_e_sym (ge_amid hz hx.1 hy.1 (a := b * z.2.2.2 - a * y.2.2.2) (b := a * x.2.2.2) (by omega) hax (by rw [o2.1, o3.1]; grind) (by rw [o2.2.1, o3.2.1]; grind) (by rw [o2.2.2, o3.2.2]; grind)))
  obtain ⟨a, b, ha, hb, h1, h2, h3⟩ := key
  by_cases hs : 0 < b
  · exact fin a b hs ha h1 h2 h3
  · exact fin (-a) (-b) (by omega) (by omega) (by rw [Int.neg_mul, Int.neg_mul, h1]) (by rw [Int.neg_mul, Int.neg_mul, h2]) (by rw [Int.neg_mul, Int.neg_mul, h3])
/-- corners lie in unlike places -/
theorem jm_ct_ne {σ : jw_H} {C : List (ge_R × Int)} (hK : jm_KN σ C) {i j : Int} (i0 : 0 ≤ i) (ij : i < j) (j1 : j < σ 103 56) : ge_lt (jm_ct σ i) (jm_ct σ j) = true ∧ ¬ ge_e (jm_ct σ i) (jm_ct σ j) := by
  have hc := hK.1.2.1
  have hl := hc.1.1
  have h1 := List.getElem?_eq_getElem (l := C) (i := i.toNat) (by omega)
  have h2 := List.getElem?_eq_getElem (l := C) (i := j.toNat) (by omega)
  have e1 := (hc.1.2 _ _ h1).1
  have e2 := (hc.1.2 _ _ h2).1
  rw [Int.toNat_of_nonneg i0] at e1
  rw [Int.toNat_of_nonneg (by omega)] at e2
  have := List.pairwise_iff_getElem.mp hc.2.2 i.toNat j.toNat (by omega) (by omega) (by omega)
  rw [← e1, ← e2] at this
  exact ⟨this, ge_lt_ne this⟩
/-- the last of those counted -/
theorem jx_cn_last {P : Int → Prop} : ∀ {m : Nat}, 0 < jx_cn P m → ∃ c : Int, 0 ≤ c ∧ c < m ∧ P c ∧ jx_cn P c.toNat + 1 = jx_cn P m
  | 0, h => by
    unfold jx_cn at h
    omega
  | m + 1, h => by
    by_cases hp : P (m : Int)
    · refine ⟨(m : Int), by omega, by omega, hp, ?_⟩
      show _ = jx_cn P m + jx_b (P (m : Int))
      rw [jx_b_1 hp, Int.toNat_natCast]
    · have e : jx_cn P (m + 1) = jx_cn P m := by
        show jx_cn P m + jx_b (P (m : Int)) = _
        rw [jx_b_0 hp, Int.add_zero]
      rw [e] at h ⊢
      obtain ⟨c, c0, c1, c2, c3⟩ := jx_cn_last h
      exact ⟨c, c0, by omega, c2, c3⟩
theorem jx_cn_mono {P : Int → Prop} {a : Nat} : ∀ {b : Nat}, a ≤ b → jx_cn P a ≤ jx_cn P b
  | 0, h => by
    rw [show a = 0 by omega]
    omega
  | b + 1, h => by
    by_cases e : a = b + 1
    · rw [e]
      omega
    · have h1 := jx_cn_mono (P := P) (a := a) (b := b) (by omega)
      have h2 := jx_b_01 (P (b : Int))
      show _ ≤ jx_cn P b + jx_b (P (b : Int))
      omega
theorem jx_cn_3 {P : Int → Prop} {m : Nat} : 3 ≤ jx_cn P m ↔ ∃ a b c : Int, 0 ≤ a ∧ a < b ∧ b < c ∧ c < m ∧ P a ∧ P b ∧ P c := by
  constructor
  · intro h
    obtain ⟨c, c0, c1, c2, c3⟩ := jx_cn_last (P := P) (m := m) (by omega)
    obtain ⟨b, b0, b1, b2, b3⟩ := jx_cn_last (P := P) (m := c.toNat) (by omega)
    obtain ⟨a, a0, a1, a2, a3⟩ := jx_cn_last (P := P) (m := b.toNat) (by omega)
    exact ⟨a, b, c, a0, by omega, by omega, c1, a2, b2, c2⟩
  · rintro ⟨a, b, c, a0, ab, bc, cm, pa, pb, pc⟩
    have h1 := (jx_cn_le P a.toNat).1
    have h2 := jx_cn_yes (P := P) (j := a) a0 rfl pa
    have h3 := jx_cn_mono (P := P) (a := (a + 1).toNat) (b := b.toNat) (by omega)
    have h4 := jx_cn_yes (P := P) (j := b) (by omega) rfl pb
    have h5 := jx_cn_mono (P := P) (a := (b + 1).toNat) (b := c.toNat) (by omega)
    have h6 := jx_cn_yes (P := P) (j := c) (by omega) rfl pc
    have h7 := jx_cn_mono (P := P) (a := (c + 1).toNat) (b := m) (by omega)
    omega
/-- a face -/
def jm_fc (σ : jw_H) (k : Int) : Prop := σ 103 3 = 3 ∧ 3 ≤ jx_cn (fun c => jb_in (σ 136 c) k.toNat) (σ 103 56).toNat
/-- all corners on a plane, one with another -/
def jm_sp (σ : jw_H) (k : Int) : Nat → ge_R
  | 0 => (0, 0, 0, 0)
  | j + 1 => if jb_in (σ 136 (j : Int)) k.toNat then jm_two (jm_sp σ k j) (jm_ct σ (j : Int)) else jm_sp σ k j
/-- what is tight at all of them -/
def jm_to (σ : jw_H) (k : Int) : Nat → Int
  | 0 => -1
  | j + 1 => if jb_in (σ 136 (j : Int)) k.toNat then jw_and (jm_to σ k j) (σ 136 (j : Int)) else jm_to σ k j
theorem jm_sp_s {σ : jw_H} {k j : Int} (j0 : 0 ≤ j) : jm_sp σ k (j + 1).toNat = if jb_in (σ 136 j) k.toNat then jm_two (jm_sp σ k j.toNat) (jm_ct σ j) else jm_sp σ k j.toNat := by
  rw [show (j + 1).toNat = j.toNat + 1 by omega]
  show (if jb_in (σ 136 ((j.toNat : Nat) : Int)) k.toNat then jm_two (jm_sp σ k j.toNat) (jm_ct σ ((j.toNat : Nat) : Int)) else _) = _
  rw [Int.toNat_of_nonneg j0]
theorem jm_to_s {σ : jw_H} {k j : Int} (j0 : 0 ≤ j) : jm_to σ k (j + 1).toNat = if jb_in (σ 136 j) k.toNat then jw_and (jm_to σ k j.toNat) (σ 136 j) else jm_to σ k j.toNat := by
  rw [show (j + 1).toNat = j.toNat + 1 by omega]
  show (if jb_in (σ 136 ((j.toNat : Nat) : Int)) k.toNat then jw_and (jm_to σ k j.toNat) (σ 136 ((j.toNat : Nat) : Int)) else _) = _
  rw [Int.toNat_of_nonneg j0]
theorem jx_andm1 {x : Int} (h : 0 ≤ x ∧ x ≤ 2147483647) : jw_and (-1) x = x := by
  unfold jw_and
  show ((Int32.ofInt (-1)).toBitVec &&& (Int32.ofInt x).toBitVec).toInt = x
  have e : (Int32.ofInt (-1)).toBitVec = BitVec.allOnes 32 := by decide
  rw [e, BitVec.allOnes_and]
  exact jw_n_id ⟨by omega, h.2⟩
theorem jm_sp_to {σ : jw_H} {C : List (ge_R × Int)} (hK : jm_KN σ C) {k : Int} : ∀ j : Nat, (j : Int) ≤ σ 103 56 → (jx_cn (fun c => jb_in (σ 136 c) k.toNat) j = 0 ∧ jm_sp σ k j = (0, 0, 0, 0) ∧ jm_to σ k j = -1) ∨ (0 < jx_cn (fun c => jb_in (σ 136 c) k.toNat) j ∧ ge_F (jm_R σ) (jm_sp σ k j) ∧ jm_tau (jm_bA σ) (jm_sp σ k j) (jm_to σ k j) ∧ (jm_sp σ k j).2.2.2 ≤ 162 * j)
  | 0, _ => .inl ⟨rfl, rfl, rfl⟩
  | j + 1, hj => by
    have ih := jm_sp_to hK (k := k) j (by omega)
    obtain ⟨t1, t2, t3, -⟩ := jm_tg hK (i := (j : Int)) (by omega) (by omega)
    have hcb := (jm_kw_cbd hK.1).2 σ (jm_fk_rf σ)
    have hw := (hcb.2 (j : Int) (by omega) (by omega)).2
    have ec : jx_cn (fun c => jb_in (σ 136 c) k.toNat) (j + 1) = jx_cn (fun c => jb_in (σ 136 c) k.toNat) j + jx_b (jb_in (σ 136 (j : Int)) k.toNat) := rfl
    have es : jm_sp σ k (j + 1) = if jb_in (σ 136 (j : Int)) k.toNat then jm_two (jm_sp σ k j) (jm_ct σ (j : Int)) else jm_sp σ k j := rfl
    have et : jm_to σ k (j + 1) = if jb_in (σ 136 (j : Int)) k.toNat then jw_and (jm_to σ k j) (σ 136 (j : Int)) else jm_to σ k j := rfl
    have e162 : 162 * ((j + 1 : Nat) : Int) = 162 * (j : Int) + 162 := by omega
    by_cases hb : jb_in (σ 136 (j : Int)) k.toNat
    · rw [ec, es, et, jx_b_1 hb, if_pos hb, if_pos hb]
      right
      rcases ih with ⟨i1, i2, i3⟩ | ⟨i1, i2, i3, i4⟩
      · rw [i1, i2, i3, jx_andm1 (by omega)]
        have e0 : jm_two (0, 0, 0, 0) (jm_ct σ (j : Int)) = jm_ct σ (j : Int) := by
          unfold jm_two
          simp only [Int.zero_add]
        rw [e0]
        exact ⟨by omega, t3.1, t2, by omega⟩
      · refine ⟨by omega, jm_two_F i2 t3.1, jx_tau_two hK.1.1 i2 t3.1 i3 t2, ?_⟩
        show (jm_sp σ k j).2.2.2 + (jm_ct σ (j : Int)).2.2.2 ≤ _
        omega
    · rw [ec, es, et, jx_b_0 hb, if_neg hb, if_neg hb, Int.add_zero]
      rcases ih with ⟨i1, i2, i3⟩ | ⟨i1, i2, i3, i4⟩
      · exact .inl ⟨i1, i2, i3⟩
      · exact .inr ⟨i1, i2, i3, by omega⟩
theorem jx_cornersOn_loop {n : Nat} {σ : jw_H} {o : Nat} {C : List (ge_R × Int)} (hK : jx_K n o C σ) {k : Int} (k0 : 0 ≤ k) (k1 : k < 20) : ∀ (f : Nat) {j m : Int}, 0 ≤ j → j + f = σ 103 56 → m = jx_cn (fun c => jb_in (σ 136 c) k.toNat) j.toNat → jw_W (js_S n) 0 md_31 4 [some (.inr (.inr 57)), some (.inl k), some (.inl m), some (.inl j)] [] σ (fun r σ' => r = some (.inl (jx_cn (fun c => jb_in (σ 136 c) k.toNat) (σ 103 56).toNat)) ∧ σ' = σ)
  | f, j, m, j0, hk, H => by
    have ih : ∀ {m' : Int}, j < σ 103 56 → m' = jx_cn (fun c => jb_in (σ 136 c) k.toNat) (j + 1).toNat → jw_W (js_S n) 0 md_31 4 [some (.inr (.inr 57)), some (.inl k), some (.inl m'), some (.inl (j + 1))] [] σ (fun r σ' => r = some (.inl (jx_cn (fun c => jb_in (σ 136 c) k.toNat) (σ 103 56).toNat)) ∧ σ' = σ) := by
      intro m' h1 h2
      match f, hk with
      | 0, hk => omega
      | f + 1, hk => exact jx_cornersOn_loop hK k0 k1 f (by omega) (by omega) h2
    have hI := hK.1
    have hKN := hK.2.1
    obtain ⟨hto, hfo, hp, hP, e0, e1, e2, hPm, hcb, c0, p0, -⟩ := jx_I0_x hI
    have ho := hp.1
    have hq := hP.1
    have hw := hP.2.1
    have hq2 := hP.2.2.1
    have hcn := hcb.1
    refine jw_W_n 2 (i' := 6) (ls' := [some (.inr (.inr 57)), some (.inl k), some (.inl m), some (.inl j)]) (st' := [.inr (.inr 57), .inl j]) rfl ?_
    refine jw_W_gf rfl rfl rfl ?_
    show jw_W (js_S n) _ md_31 7 [some (.inr (.inr 57)), some (.inl k), some (.inl m), some (.inl j)] [.inl (σ 57 0), .inl j] σ _
    refine jw_W_ic rfl (by unfold jw_rg; omega) (by unfold jw_rg; omega) (fun hc1 => ?_) (fun hc1 => ?_)
    · have hc1 : j ≥ (σ 57 0) := hc1
      refine jw_W_n 1 (i' := 26) (ls' := [some (.inr (.inr 57)), some (.inl k), some (.inl m), some (.inl j)]) (st' := [.inl m]) rfl ?_
      refine jw_W_ir rfl ?_
      have hkl : j = σ 103 56 := by omega
      subst hkl
      exact ⟨by rw [H], rfl⟩
    · have hc1 : ¬ (j ≥ (σ 57 0)) := hc1
      have htg := (jm_tg hKN j0 (show j < σ 103 56 by omega)).1
      have h63 := (jx_I0_c hI j0 (show j < σ 103 56 by omega)).2.1
      have hbz := jx_bitz (t := σ 136 j) (k := k) (by omega) k0 k1
      refine jw_W_n 2 (i' := 10) (ls' := [some (.inr (.inr 57)), some (.inl k), some (.inl m), some (.inl j)]) (st' := [.inr (.inr 57), .inl m]) rfl ?_
      refine jw_W_gf rfl rfl rfl ?_
      show jw_W (js_S n) _ md_31 11 [some (.inr (.inr 57)), some (.inl k), some (.inl m), some (.inl j)] [.inr (.inr 63), .inl m] σ _
      refine jw_W_n 1 (i' := 12) (ls' := [some (.inr (.inr 57)), some (.inl k), some (.inl m), some (.inl j)]) (st' := [.inl j, .inr (.inr 63), .inl m]) rfl ?_
      refine jw_W_ia rfl rfl (by omega) (by omega) (by omega) ?_
      show jw_W (js_S n) _ md_31 13 [some (.inr (.inr 57)), some (.inl k), some (.inl m), some (.inl j)] [.inl (σ 63 j), .inl m] σ _
      rw [h63]
      refine jw_W_n 4 (i' := 17) (ls' := [some (.inr (.inr 57)), some (.inl k), some (.inl m), some (.inl j)]) (st' := [.inl (jw_and (σ 136 j) (jw_shl 1 k)), .inl m]) rfl ?_
      refine jw_W_if rfl (by unfold jw_rg; omega) (fun hc2 => ?_) (fun hc2 => ?_)
      · have hc2 : (jw_and (σ 136 j) (jw_shl 1 k)) = 0 := hc2
        refine jw_W_n 5 (i' := 4) (ls' := [some (.inr (.inr 57)), some (.inl k), some (.inl (m + 0)), some (.inl (j + 1))]) (st' := []) rfl ?_
        rw [Int.add_zero]
        exact ih (by omega) (jx_cn_no j0 H (hbz.2.mp (by assumption)))
      · have hc2 : ¬ ((jw_and (σ 136 j) (jw_shl 1 k)) = 0) := hc2
        refine jw_W_n 6 (i' := 4) (ls' := [some (.inr (.inr 57)), some (.inl k), some (.inl (m + 1)), some (.inl (j + 1))]) (st' := []) rfl ?_
        exact ih (by omega) (jx_cn_yes j0 H (Classical.not_not.mp (fun hh => (show ¬ _ from by assumption) (hbz.2.mpr hh))))
theorem jx_cornersOn {n : Nat} {σ : jw_H} {o : Nat} {C : List (ge_R × Int)} (hK : jx_K n o C σ) {k : Int} (k0 : 0 ≤ k) (k1 : k < 20) : jw_T (js_S n) 1 31 [.inr (.inr 57), .inl k] σ (fun r σ' => r = some (.inl (jx_cn (fun c => jb_in (σ 136 c) k.toNat) (σ 103 56).toNat)) ∧ σ' = σ) := by
  refine jw_T_of (D := 0) (M := mm_31) rfl (Nat.le_of_ble_eq_true rfl) (ls0 := [some (.inr (.inr 57)), some (.inl k), none, none]) rfl ?_ (by rintro _ _ ⟨rfl, -⟩; rfl)
  have hI := hK.1
  have hKN := hK.2.1
  obtain ⟨hto, hfo, hp, hP, e0, e1, e2, hPm, hcb, c0, p0, -⟩ := jx_I0_x hI
  have ho := hp.1
  have hq := hP.1
  have hw := hP.2.1
  have hq2 := hP.2.2.1
  have hcn := hcb.1
  refine jw_W_n 4 (i' := 4) (ls' := [some (.inr (.inr 57)), some (.inl k), some (.inl 0), some (.inl 0)]) (st' := []) rfl ?_
  exact jx_cornersOn_loop hK k0 k1 (σ 103 56).toNat (j := 0) (m := 0) (by omega) (by omega) rfl
theorem jx_tightOn_loop {n : Nat} {σ : jw_H} {o : Nat} {C : List (ge_R × Int)} (hK : jx_K n o C σ) {k : Int} (k0 : 0 ≤ k) (k1 : k < 20) : ∀ (f : Nat) {j m : Int}, 0 ≤ j → j + f = σ 103 56 → m = jm_to σ k j.toNat → jw_W (js_S n) 0 md_32 4 [some (.inr (.inr 57)), some (.inl k), some (.inl m), some (.inl j)] [] σ (fun r σ' => r = some (.inl (jm_to σ k (σ 103 56).toNat)) ∧ σ' = σ)
  | f, j, m, j0, hk, H => by
    have ih : ∀ {m' : Int}, j < σ 103 56 → m' = jm_to σ k (j + 1).toNat → jw_W (js_S n) 0 md_32 4 [some (.inr (.inr 57)), some (.inl k), some (.inl m'), some (.inl (j + 1))] [] σ (fun r σ' => r = some (.inl (jm_to σ k (σ 103 56).toNat)) ∧ σ' = σ) := by
      intro m' h1 h2
      match f, hk with
      | 0, hk => omega
      | f + 1, hk => exact jx_tightOn_loop hK k0 k1 f (by omega) (by omega) h2
    have hI := hK.1
    have hKN := hK.2.1
    obtain ⟨hto, hfo, hp, hP, e0, e1, e2, hPm, hcb, c0, p0, -⟩ := jx_I0_x hI
    have ho := hp.1
    have hq := hP.1
    have hw := hP.2.1
    have hq2 := hP.2.2.1
    have hcn := hcb.1
    refine jw_W_n 2 (i' := 6) (ls' := [some (.inr (.inr 57)), some (.inl k), some (.inl m), some (.inl j)]) (st' := [.inr (.inr 57), .inl j]) rfl ?_
    refine jw_W_gf rfl rfl rfl ?_
    show jw_W (js_S n) _ md_32 7 [some (.inr (.inr 57)), some (.inl k), some (.inl m), some (.inl j)] [.inl (σ 57 0), .inl j] σ _
    refine jw_W_ic rfl (by unfold jw_rg; omega) (by unfold jw_rg; omega) (fun hc1 => ?_) (fun hc1 => ?_)
    · have hc1 : j ≥ (σ 57 0) := hc1
      refine jw_W_n 1 (i' := 27) (ls' := [some (.inr (.inr 57)), some (.inl k), some (.inl m), some (.inl j)]) (st' := [.inl m]) rfl ?_
      refine jw_W_ir rfl ?_
      have hkl : j = σ 103 56 := by omega
      subst hkl
      exact ⟨by rw [H], rfl⟩
    · have hc1 : ¬ (j ≥ (σ 57 0)) := hc1
      have htg := (jm_tg hKN j0 (show j < σ 103 56 by omega)).1
      have h63 := (jx_I0_c hI j0 (show j < σ 103 56 by omega)).2.1
      have hbz := jx_bitz (t := σ 136 j) (k := k) (by omega) k0 k1
      refine jw_W_n 1 (i' := 9) (ls' := [some (.inr (.inr 57)), some (.inl k), some (.inl m), some (.inl j)]) (st' := [.inr (.inr 57)]) rfl ?_
      refine jw_W_gf rfl rfl rfl ?_
      show jw_W (js_S n) _ md_32 10 [some (.inr (.inr 57)), some (.inl k), some (.inl m), some (.inl j)] [.inr (.inr 63)] σ _
      refine jw_W_n 1 (i' := 11) (ls' := [some (.inr (.inr 57)), some (.inl k), some (.inl m), some (.inl j)]) (st' := [.inl j, .inr (.inr 63)]) rfl ?_
      refine jw_W_ia rfl rfl (by omega) (by omega) (by omega) ?_
      show jw_W (js_S n) _ md_32 12 [some (.inr (.inr 57)), some (.inl k), some (.inl m), some (.inl j)] [.inl (σ 63 j)] σ _
      rw [h63]
      refine jw_W_n 4 (i' := 16) (ls' := [some (.inr (.inr 57)), some (.inl k), some (.inl m), some (.inl j)]) (st' := [.inl (jw_and (σ 136 j) (jw_shl 1 k))]) rfl ?_
      refine jw_W_if rfl (by unfold jw_rg; omega) (fun hc2 => ?_) (fun hc2 => ?_)
      · have hc2 : (jw_and (σ 136 j) (jw_shl 1 k)) = 0 := hc2
        refine jw_W_n 2 (i' := 4) (ls' := [some (.inr (.inr 57)), some (.inl k), some (.inl m), some (.inl (j + 1))]) (st' := []) rfl ?_
        exact ih (by omega) (by rw [jm_to_s j0, if_neg (hbz.2.mp (by assumption))]; exact H)
      · have hc2 : ¬ ((jw_and (σ 136 j) (jw_shl 1 k)) = 0) := hc2
        refine jw_W_n 2 (i' := 19) (ls' := [some (.inr (.inr 57)), some (.inl k), some (.inl m), some (.inl j)]) (st' := [.inr (.inr 57), .inl m]) rfl ?_
        refine jw_W_gf rfl rfl rfl ?_
        show jw_W (js_S n) _ md_32 20 [some (.inr (.inr 57)), some (.inl k), some (.inl m), some (.inl j)] [.inr (.inr 63), .inl m] σ _
        refine jw_W_n 1 (i' := 21) (ls' := [some (.inr (.inr 57)), some (.inl k), some (.inl m), some (.inl j)]) (st' := [.inl j, .inr (.inr 63), .inl m]) rfl ?_
        refine jw_W_ia rfl rfl (by omega) (by omega) (by omega) ?_
        show jw_W (js_S n) _ md_32 22 [some (.inr (.inr 57)), some (.inl k), some (.inl m), some (.inl j)] [.inl (σ 63 j), .inl m] σ _
        rw [h63]
        refine jw_W_n 4 (i' := 4) (ls' := [some (.inr (.inr 57)), some (.inl k), some (.inl (jw_and m (σ 136 j))), some (.inl (j + 1))]) (st' := []) rfl ?_
        exact ih (by omega) (by rw [jm_to_s j0, if_pos (Classical.not_not.mp (fun hh => (show ¬ _ from by assumption) (hbz.2.mpr hh))), H])
theorem jx_tightOn {n : Nat} {σ : jw_H} {o : Nat} {C : List (ge_R × Int)} (hK : jx_K n o C σ) {k : Int} (k0 : 0 ≤ k) (k1 : k < 20) : jw_T (js_S n) 1 32 [.inr (.inr 57), .inl k] σ (fun r σ' => r = some (.inl (jm_to σ k (σ 103 56).toNat)) ∧ σ' = σ) := by
  refine jw_T_of (D := 0) (M := mm_32) rfl (Nat.le_of_ble_eq_true rfl) (ls0 := [some (.inr (.inr 57)), some (.inl k), none, none]) rfl ?_ (by rintro _ _ ⟨rfl, -⟩; rfl)
  have hI := hK.1
  have hKN := hK.2.1
  obtain ⟨hto, hfo, hp, hP, e0, e1, e2, hPm, hcb, c0, p0, -⟩ := jx_I0_x hI
  have ho := hp.1
  have hq := hP.1
  have hw := hP.2.1
  have hq2 := hP.2.2.1
  have hcn := hcb.1
  refine jw_W_n 4 (i' := 4) (ls' := [some (.inr (.inr 57)), some (.inl k), some (.inl ((-1))), some (.inl 0)]) (st' := []) rfl ?_
  exact jx_tightOn_loop hK k0 k1 (σ 103 56).toNat (j := 0) (m := -1) (by omega) (by omega) rfl
theorem jx_isFace {n : Nat} {σ : jw_H} {o : Nat} {C : List (ge_R × Int)} (hK : jx_K n o C σ) {k : Int} (k0 : 0 ≤ k) (k1 : k < 20) : jw_T (js_S n) 2 33 [.inr (.inr 57), .inl k] σ (fun r σ' => (r = some (.inl 1) ∧ σ' = σ ∧ (jm_fc σ k)) ∨ (r = some (.inl 0) ∧ σ' = σ ∧ ¬ (jm_fc σ k))) := by
  refine jw_T_of (D := 1) (M := mm_33) rfl (Nat.le_of_ble_eq_true rfl) (ls0 := [some (.inr (.inr 57)), some (.inl k)]) rfl ?_ (by rintro _ _ (⟨rfl, -⟩ | ⟨rfl, -⟩) <;> rfl)
  have hI := hK.1
  have hKN := hK.2.1
  obtain ⟨hto, hfo, hp, hP, e0, e1, e2, hPm, hcb, c0, p0, -⟩ := jx_I0_x hI
  have ho := hp.1
  have hq := hP.1
  have hw := hP.2.1
  have hq2 := hP.2.2.1
  have hcn := hcb.1
  refine jw_W_n 1 (i' := 1) (ls' := [some (.inr (.inr 57)), some (.inl k)]) (st' := [.inr (.inr 57)]) rfl ?_
  refine jw_W_gf rfl rfl rfl ?_
  show jw_W (js_S n) _ md_33 2 [some (.inr (.inr 57)), some (.inl k)] [.inr (.inr ((σ 57 6).toNat))] σ _
  rw [hfo]
  refine jw_W_gf rfl hp.2.1 rfl ?_
  show jw_W (js_S n) _ md_33 3 [some (.inr (.inr 57)), some (.inl k)] [.inl (σ o 0)] σ _
  refine jw_W_n 1 (i' := 4) (ls' := [some (.inr (.inr 57)), some (.inl k)]) (st' := [.inl 3, .inl (σ o 0)]) rfl ?_
  refine jw_W_ic rfl (by unfold jw_rg; omega) (by unfold jw_rg; omega) (fun hc1 => ?_) (fun hc1 => ?_)
  · have hc1 : (σ o 0) ≠ 3 := hc1
    refine jw_W_n 1 (i' := 13) (ls' := [some (.inr (.inr 57)), some (.inl k)]) (st' := [.inl 0]) rfl ?_
    refine jw_W_ir rfl ?_
    exact .inr ⟨rfl, rfl, by unfold jm_fc; omega⟩
  · have hc1 : (σ o 0) = 3 := Classical.not_not.mp hc1
    refine jw_W_n 2 (i' := 7) (ls' := [some (.inr (.inr 57)), some (.inl k)]) (st' := [.inl k, .inr (.inr 57)]) rfl ?_
    refine jw_W_call (as := [.inr (.inr 57), .inl k]) (rest := []) rfl rfl rfl rfl (Nat.le_of_ble_eq_true rfl) (.inr rfl) (jx_cornersOn hK k0 k1) (by omega) ?_ rfl
    rintro r1 σz ⟨rfl, hs⟩
    rw [hs]
    have hcl := jx_cn_le (fun c => jb_in (σ 136 c) k.toNat) (σ 103 56).toNat
    show jw_W (js_S n) _ md_33 8 [some (.inr (.inr 57)), some (.inl k)] [.inl (jx_cn (fun c => jb_in (σ 136 c) k.toNat) (σ 103 56).toNat)] σ _
    refine jw_W_n 1 (i' := 9) (ls' := [some (.inr (.inr 57)), some (.inl k)]) (st' := [.inl 3, .inl (jx_cn (fun c => jb_in (σ 136 c) k.toNat) (σ 103 56).toNat)]) rfl ?_
    refine jw_W_ic rfl (by unfold jw_rg; omega) (by unfold jw_rg; omega) (fun hc2 => ?_) (fun hc2 => ?_)
    · have hc2 : (jx_cn (fun c => jb_in (σ 136 c) k.toNat) (σ 103 56).toNat) < 3 := hc2
      refine jw_W_n 1 (i' := 13) (ls' := [some (.inr (.inr 57)), some (.inl k)]) (st' := [.inl 0]) rfl ?_
      refine jw_W_ir rfl ?_
      exact .inr ⟨rfl, rfl, by unfold jm_fc; omega⟩
    · have hc2 : ¬ ((jx_cn (fun c => jb_in (σ 136 c) k.toNat) (σ 103 56).toNat) < 3) := hc2
      refine jw_W_n 2 (i' := 13) (ls' := [some (.inr (.inr 57)), some (.inl k)]) (st' := [.inl 1]) rfl ?_
      refine jw_W_ir rfl ?_
      exact .inl ⟨rfl, rfl, by unfold jm_fc; omega⟩
theorem jx_isEfficientFace {n : Nat} {σ : jw_H} {o : Nat} {C : List (ge_R × Int)} (hK : jx_K n o C σ) {k : Int} (k0 : 0 ≤ k) (k1 : k < 20) (hf3 : jm_fc σ k) : jw_T (js_S n) 7 34 [.inr (.inr 57), .inl k] σ (fun r σ' => ∃ v, r = some (.inl v) ∧ jx_fy σ σ' ∧ (v = 1 ∧ ¬ jm_Ef σ (jm_sp σ k (σ 103 56).toNat) ∨ v = 0 ∧ jm_Ef σ (jm_sp σ k (σ 103 56).toNat))) := by
  refine jw_T_of (D := 6) (M := mm_34) rfl (Nat.le_of_ble_eq_true rfl) (ls0 := [some (.inr (.inr 57)), some (.inl k)]) rfl ?_ (by rintro _ _ ⟨v, rfl, -, ⟨rfl, -⟩ | ⟨rfl, -⟩⟩ <;> rfl)
  have hI := hK.1
  have hKN := hK.2.1
  obtain ⟨hto, hfo, hp, hP, e0, e1, e2, hPm, hcb, c0, p0, -⟩ := jx_I0_x hI
  have ho := hp.1
  have hq := hP.1
  have hw := hP.2.1
  have hq2 := hP.2.2.1
  have hcn := hcb.1
  obtain ⟨-, hFs, hta, -⟩ := (jm_sp_to hKN (k := k) (σ 103 56).toNat (by omega)).resolve_left (fun hh => by have := hf3.2; omega)
  refine jw_W_n 3 (i' := 3) (ls' := [some (.inr (.inr 57)), some (.inl k)]) (st' := [.inl k, .inr (.inr 57), .inr (.inr 57)]) rfl ?_
  refine jw_W_call (as := [.inr (.inr 57), .inl k]) (rest := [.inr (.inr 57)]) rfl rfl rfl rfl (Nat.le_of_ble_eq_true rfl) (.inr rfl) (jx_tightOn hK k0 k1) (by omega) ?_ rfl
  rintro r1 σz ⟨rfl, hs⟩
  rw [hs]
  show jw_W (js_S n) _ md_34 4 [some (.inr (.inr 57)), some (.inl k)] [.inl (jm_to σ k (σ 103 56).toNat), .inr (.inr 57)] σ _
  refine jw_W_call (as := [.inr (.inr 57), .inl (jm_to σ k (σ 103 56).toNat)]) (rest := []) rfl rfl rfl rfl (Nat.le_of_ble_eq_true rfl) (.inr rfl) (jx_findRisen hfo hp hP ⟨hta.1, hta.2.1⟩) (by omega) ?_ rfl
  rintro r1 σ1 ⟨m, rfl, hf, hra⟩
  have hrs : jx_rs σ (jm_sp σ k (σ 103 56).toNat) m := jx_rs_pq hI.1.2.2.2 hPm (jx_ra_rs (jx_Pb_M hP) (by rw [jx_pq_R hI.1.2.2.2 (by omega) (by omega)]; exact hFs) (by rw [jx_pq_bA hI.1.2.2.2 (by omega) (by omega)]; exact hta) hra)
  have hz := jx_rs_0 hrs
  have hm7 := hrs.1
  show jw_W (js_S n) _ md_34 5 [some (.inr (.inr 57)), some (.inl k)] [.inl m] σ1 _
  refine jw_W_if rfl (by unfold jw_rg; omega) (fun hc1 => ?_) (fun hc1 => ?_)
  · have hc1 : m ≠ 0 := hc1
    refine jw_W_n 1 (i' := 9) (ls' := [some (.inr (.inr 57)), some (.inl k)]) (st' := [.inl 0]) rfl ?_
    refine jw_W_ir rfl ?_
    exact ⟨_, rfl, jx_fy_q hf, .inr ⟨rfl, Classical.not_not.mp (fun hh => (show ¬ (m = 0) from by assumption) (hz.mpr hh))⟩⟩
  · have hc1 : m = 0 := Classical.not_not.mp hc1
    refine jw_W_n 2 (i' := 9) (ls' := [some (.inr (.inr 57)), some (.inl k)]) (st' := [.inl 1]) rfl ?_
    refine jw_W_ir rfl ?_
    exact ⟨_, rfl, jx_fy_q hf, .inl ⟨rfl, hz.mp (by omega)⟩⟩

/-! ===== the reference's box, laid, is a body ===== -/
theorem jm_tb_in {K q p : Int} (K0 : 0 ≤ K) (K1 : K ≤ 4) (q0 : 1 ≤ q) (q1 : q ≤ 3) : ∀ j : Nat, (j : Int) ≤ q → (0 ≤ jm_tb K q p j ∧ jm_tb K q p j ≤ 1048575) ∧ ∀ k : Nat, jb_in (jm_tb K q p j) k ↔ ∃ i : Nat, i < j ∧ (k : Int) = K + (if jb_in p i then q + i else i)
  | 0, _ => by
    refine ⟨⟨Int.le_refl _, by show (0 : Int) ≤ _; omega⟩, fun k => ?_⟩
    constructor
    · intro h
      have h : (0 : Nat).testBit k = true := h
      rw [Nat.zero_testBit] at h
      cases h
    · rintro ⟨i, hi, -⟩
      omega
  | j + 1, hj => by
    obtain ⟨b1, b2⟩ := jm_tb_in (p := p) K0 K1 q0 q1 j (by omega)
    have hs : 0 ≤ K + (if jb_in p j then q + (j : Int) else (j : Int)) ∧ K + (if jb_in p j then q + (j : Int) else (j : Int)) < 20 := by
      split <;> omega
    obtain ⟨o1, o2⟩ := jm_one_in hs.1 hs.2
    refine ⟨?_, fun k => ?_⟩
    · show 0 ≤ jw_or _ _ ∧ jw_or _ _ ≤ 1048575
      rw [jb_or (by omega) (by omega) (by omega) (by omega)]
      have := Nat.or_lt_two_pow (n := 20) (x := (jm_tb K q p j).toNat) (y := (jw_shl 1 (K + (if jb_in p j then q + (j : Int) else (j : Int)))).toNat) (by omega) (by omega)
      omega
    · show jb_in (jw_or _ _) k ↔ _
      rw [jm_or_in b1 o1, b2, o2]
      constructor
      · rintro (⟨i, hi, e⟩ | e)
        · exact ⟨i, by omega, e⟩
        · exact ⟨j, by omega, e⟩
      · rintro ⟨i, hi, e⟩
        by_cases h : i = j
        · subst h
          exact .inr e
        · exact .inl ⟨i, by omega, e⟩
theorem jm_pick : ∀ e0 e1 e2 : Bool, (e0.toNat + 2 * e1.toNat + 4 * e2.toNat).testBit 0 = e0 ∧ (e0.toNat + 2 * e1.toNat + 4 * e2.toNat).testBit 1 = e1 ∧ (e0.toNat + 2 * e1.toNat + 4 * e2.toNat).testBit 2 = e2 := by decide
theorem jm_b0_mem {σ : jw_H} {m : Nat} {x : ge_R × Int} : x ∈ jm_b0 σ m ↔ ∃ p : Nat, p < m ∧ x = (jm_bp σ (p : Int), jm_b1 σ (p : Int)) := by
  unfold jm_b0
  rw [List.mem_map]
  constructor
  · rintro ⟨p, hp, rfl⟩
    exact ⟨p, List.mem_range.mp hp, rfl⟩
  · rintro ⟨p, hp, rfl⟩
    exact ⟨p, List.mem_range.mpr hp, rfl⟩
theorem jm_bit_hi {p q i : Nat} (hp : p < 2 ^ q) (hi : q ≤ i) : ¬ jb_in (p : Int) i := by
  intro h
  have h : ((p : Int).toNat).testBit i = true := h
  rw [Int.toNat_natCast, Nat.testBit_lt_two_pow (Nat.lt_of_lt_of_le hp (Nat.pow_le_pow_right (by decide) hi))] at h
  cases h
def jm_Bs (σ : jw_H) (i : Nat) : Int := σ 106 (i : Int)
theorem jm_bx_Bq {σ : jw_H} {p q i : Nat} (hp : p < 2 ^ q) : jm_bx σ (p : Int) i = 0 ∨ jm_bx σ (p : Int) i = jm_Bq q (jm_Bs σ) i := by
  unfold jm_bx jm_Bq
  by_cases h : jb_in (p : Int) i
  · rw [if_pos h]
    right
    have : i < q := by
      apply Classical.byContradiction
      intro w
      exact jm_bit_hi hp (by omega) h
    rw [if_pos this]
    rfl
  · rw [if_neg h]
    exact .inl rfl
theorem jm_box_Bd {σ : jw_H} (hP : jm_Pb σ) : ge_Bd (jm_RR (σ 103 3) (jm_be (σ 103 5).toNat (σ 103 3).toNat (jm_Bs σ))) (jm_tau (jm_be (σ 103 5).toNat (σ 103 3).toNat (jm_Bs σ))) (jm_b0 σ (2 ^ (σ 103 3).toNat)) := by
  obtain ⟨⟨q1, q2⟩, -, ⟨k1, k2⟩, -, hb, -⟩ := hP
  have hB : ∀ i : Nat, i < 3 → 1 ≤ jm_Bs σ i := fun i hi => (hb (i : Int) (by omega) (by omega)).1
  have eq : σ 103 3 = ((σ 103 3).toNat : Int) := by omega
  have ek : σ 103 5 = ((σ 103 5).toNat : Int) := by omega
  have tbi := fun p : Int => jm_tb_in (p := p) k1 k2 q1 q2 (σ 103 3).toNat (by omega)
  have eb1 : ∀ p : Int, jm_b1 σ p = jm_tb (σ 103 5) (σ 103 3) p (σ 103 3).toNat := fun _ => rfl
  generalize hq : (σ 103 3).toNat = q at *
  generalize hK : (σ 103 5).toNat = K at *
  have hq3 : 1 ≤ q ∧ q ≤ 3 := by omega
  have hrows : ∀ r, r ∈ jm_RR (σ 103 3) (jm_be K q (jm_Bs σ)) ↔ r ∈ ge_box (jm_Bq q (jm_Bs σ) 0) (jm_Bq q (jm_Bs σ) 1) (jm_Bq q (jm_Bs σ) 2) := fun r => by
    rw [eq]
    exact jm_box_rows hq3.1 hq3.2 r
  have hBq : ∀ i : Nat, i < 3 → 0 ≤ jm_Bq q (jm_Bs σ) i := fun i hi => by
    unfold jm_Bq
    have := hB i hi
    split <;> omega
  refine ⟨fun x hx => ?_, fun v hv => ?_, ?_⟩
  · obtain ⟨p, hp, rfl⟩ := jm_b0_mem.mp hx
    refine ⟨(ge_V_iff hrows _).mpr (ge_V_box (hBq 0 (by omega)) (hBq 1 (by omega)) (hBq 2 (by omega)) (jm_bx_Bq hp) (jm_bx_Bq hp) (jm_bx_Bq hp)), ?_, ?_⟩
    · have h : Int.gcd (jm_bx σ (p : Int) 2) 1 = 1 := Int.gcd_one_right _
      show Nat.gcd (Int.gcd (jm_bx σ (p : Int) 0) (jm_bx σ (p : Int) 1)) (Int.gcd (jm_bx σ (p : Int) 2) 1) = 1
      rw [h, Nat.gcd_one_right]
    · show jm_tau _ _ (jm_b1 σ (p : Int))
      rw [eb1]
      refine ⟨(tbi p).1.1, (tbi p).1.2, fun b hb20 => ?_⟩
      rw [(tbi p).2 b]
      have lo : ∀ i : Nat, i < 3 → ge_s (jm_lo i) (jm_bp σ (p : Int)) = - jm_bx σ (p : Int) i := fun i hi => by
        have : i = 0 ∨ i = 1 ∨ i = 2 := by omega
        rcases this with rfl | rfl | rfl <;> simp [ge_s, jm_lo, jm_ei, jm_bp]
      have hi' : ∀ i : Nat, i < 3 → ge_s (jm_hi i (jm_Bs σ i)) (jm_bp σ (p : Int)) = jm_bx σ (p : Int) i - jm_Bs σ i := fun i hi => by
        have : i = 0 ∨ i = 1 ∨ i = 2 := by omega
        rcases this with rfl | rfl | rfl <;> simp [ge_s, jm_hi, jm_ei, jm_bp]
      have bxi : ∀ i : Nat, jm_bx σ (p : Int) i = if jb_in (p : Int) i then jm_Bs σ i else 0 := fun i => rfl
      constructor
      · rintro ⟨i, hi, e⟩
        have := hB i (by omega)
        by_cases h : jb_in (p : Int) i
        · rw [if_pos h] at e
          refine ⟨_, jm_be_mem.mpr ⟨i, hi, .inr ⟨by omega, rfl⟩⟩, ?_⟩
          rw [hi' i (by omega), bxi, if_pos h]
          omega
        · rw [if_neg h] at e
          refine ⟨_, jm_be_mem.mpr ⟨i, hi, .inl ⟨by omega, rfl⟩⟩, ?_⟩
          rw [lo i (by omega), bxi, if_neg h]
          omega
      · rintro ⟨r, hr, e⟩
        obtain ⟨i, hi, h⟩ := jm_be_mem.mp hr
        have := hB i (by omega)
        refine ⟨i, hi, ?_⟩
        rcases h with ⟨rfl, rfl⟩ | ⟨rfl, rfl⟩
        · rw [lo i (by omega), bxi] at e
          by_cases h : jb_in (p : Int) i
          · rw [if_pos h] at e
            omega
          · rw [if_neg h]
            omega
        · rw [hi' i (by omega), bxi] at e
          by_cases h : jb_in (p : Int) i
          · rw [if_pos h]
            omega
          · rw [if_neg h] at e
            omega
  · obtain ⟨w, c0, c1, c2⟩ := ge_box_V ((ge_V_iff hrows v).mp hv)
    have pick : ∀ (i : Nat) (x : Int), i < 3 → (x = 0 ∨ x = jm_Bq q (jm_Bs σ) i * v.2.2.2) → ∃ e : Bool, (e = true → i < q) ∧ (if e = true then jm_Bs σ i else 0) * v.2.2.2 = x := by
      intro i x hi h
      rcases h with h | h
      · exact ⟨false, (by intro h; cases h), (by rw [h]; simp)⟩
      · unfold jm_Bq at h
        by_cases hiq : i < q
        · rw [if_pos hiq] at h
          exact ⟨true, fun _ => hiq, by rw [h]; simp⟩
        · rw [if_neg hiq] at h
          exact ⟨false, (by intro h; cases h), (by rw [h]; simp)⟩
    obtain ⟨e0, l0, f0⟩ := pick 0 _ (by omega) c0
    obtain ⟨e1, l1, f1⟩ := pick 1 _ (by omega) c1
    obtain ⟨e2, l2, f2⟩ := pick 2 _ (by omega) c2
    obtain ⟨t0, t1, t2⟩ := jm_pick e0 e1 e2
    have hp : e0.toNat + 2 * e1.toNat + 4 * e2.toNat < 2 ^ q := by
      have h : q = 1 ∨ q = 2 ∨ q = 3 := by omega
      rcases h with rfl | rfl | rfl <;> cases e0 <;> cases e1 <;> cases e2 <;> simp at l0 l1 l2 ⊢
    refine ⟨_, jm_b0_mem.mpr ⟨_, hp, rfl⟩, ?_⟩
    generalize e0.toNat + 2 * e1.toNat + 4 * e2.toNat = p at *
    have g : ∀ (i : Nat) (e : Bool), p.testBit i = e → jm_bx σ (p : Int) i = if e = true then jm_Bs σ i else 0 := by
      intro i e h
      show (if ((p : Int).toNat).testBit i = true then _ else _) = _
      rw [Int.toNat_natCast, h]
      rfl
    refine ⟨?_, ?_, ?_⟩
    · show jm_bx σ (p : Int) 0 * v.2.2.2 = v.1 * 1
      rw [g 0 e0 t0, f0, Int.mul_one]
    · show jm_bx σ (p : Int) 1 * v.2.2.2 = v.2.1 * 1
      rw [g 1 e1 t1, f1, Int.mul_one]
    · show jm_bx σ (p : Int) 2 * v.2.2.2 = v.2.2.1 * 1
      rw [g 2 e2 t2, f2, Int.mul_one]
  · unfold jm_b0
    refine List.pairwise_map.mpr (List.Pairwise.imp_of_mem ?_ List.pairwise_lt_range)
    intro p r hp hr hlt he
    have hp := List.mem_range.mp hp
    have hr := List.mem_range.mp hr
    have c : ∀ i : Nat, i < 3 → jm_bx σ (p : Int) i = jm_bx σ (r : Int) i := by
      intro i hi
      have h : i = 0 ∨ i = 1 ∨ i = 2 := by omega
      obtain ⟨a1, a2, a3⟩ := he
      simp only [jm_bp, Int.mul_one] at a1 a2 a3
      rcases h with rfl | rfl | rfl
      · exact a1
      · exact a2
      · exact a3
    have : p = r := by
      apply Nat.eq_of_testBit_eq
      intro i
      by_cases hi : i < q
      · have h := c i (by omega)
        have hBi := hB i (by omega)
        have e1 : jm_bx σ (p : Int) i = if p.testBit i = true then jm_Bs σ i else 0 := by
          show (if ((p : Int).toNat).testBit i = true then _ else _) = _
          rw [Int.toNat_natCast]
          rfl
        have e2 : jm_bx σ (r : Int) i = if r.testBit i = true then jm_Bs σ i else 0 := by
          show (if ((r : Int).toNat).testBit i = true then _ else _) = _
          rw [Int.toNat_natCast]
          rfl
        rw [e1, e2] at h
        cases h1 : p.testBit i <;> cases h2 : r.testBit i <;> rw [h1, h2] at h <;> simp at h ⊢ <;> omega
      · have a := jm_bit_hi hp (show q ≤ i by omega)
        have b := jm_bit_hi hr (show q ≤ i by omega)
        have a : ¬ ((p : Int).toNat).testBit i = true := a
        have b : ¬ ((r : Int).toNat).testBit i = true := b
        rw [Int.toNat_natCast] at a b
        rw [Bool.not_eq_true] at a b
        rw [a, b]
    omega

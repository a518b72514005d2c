/-! ===== the reference's body: a list of corners, kept by the cut ===== -/
/-- of a quantity that is not there: it is 0 -/
def jm_vr (q : Int) : List ge_R := (if q ≤ 2 then [(0, 0, 1, 0), (0, 0, -1, 0)] else []) ++ (if q ≤ 1 then [(0, 1, 0, 0), (0, -1, 0, 0)] else [])
def jm_RR (q : Int) (β : List (Nat × ge_R)) : List ge_R := β.map Prod.snd ++ jm_vr q
/-- what is tight is told by bits -/
def jm_tau (β : List (Nat × ge_R)) (p : ge_R) (t : Int) : Prop := 0 ≤ t ∧ t ≤ 1048575 ∧ ∀ b : Nat, b < 20 → (jb_in t b ↔ ∃ r, (b, r) ∈ β ∧ ge_s r p = 0)
def jm_nor (r : ge_R) : ge_D := (r.1, r.2.1, r.2.2.1)
def jm_nrm (σ : jw_H) (β : List (Nat × ge_R)) : Prop := ∀ (b : Nat) (r : ge_R), (b, r) ∈ β → b < 20 ∧ (jm_N σ (b : Int) = jm_nor r ∨ jm_N σ (b : Int) = ge_ng (jm_nor r))
def jm_flat (q : Int) (β : List (Nat × ge_R)) : Prop := ∀ (b : Nat) (r : ge_R), (b, r) ∈ β → (q ≤ 2 → r.2.2.1 = 0) ∧ (q ≤ 1 → r.2.1 = 0)
theorem jm_and_in {s t : Int} (hs : 0 ≤ s ∧ s ≤ 1048575) (ht : 0 ≤ t ∧ t ≤ 1048575) (b : Nat) : jb_in (jw_and s t) b ↔ jb_in s b ∧ jb_in t b := by
  rw [jb_and (by omega) (by omega) (by omega) (by omega)]
  show ((s.toNat &&& t.toNat : Nat) : Int).toNat.testBit b = true ↔ _
  rw [Int.toNat_natCast, Nat.testBit_and, Bool.and_eq_true]
theorem jm_or_in {s t : Int} (hs : 0 ≤ s ∧ s ≤ 1048575) (ht : 0 ≤ t ∧ t ≤ 1048575) (b : Nat) : jb_in (jw_or s t) b ↔ jb_in s b ∨ jb_in t b := by
  rw [jb_or (by omega) (by omega) (by omega) (by omega)]
  show ((s.toNat ||| t.toNat : Nat) : Int).toNat.testBit b = true ↔ _
  rw [Int.toNat_natCast, Nat.testBit_or, Bool.or_eq_true]
theorem jm_one_in {k : Int} (k0 : 0 ≤ k) (k1 : k < 20) : (0 ≤ jw_shl 1 k ∧ jw_shl 1 k ≤ 1048575) ∧ ∀ b : Nat, jb_in (jw_shl 1 k) b ↔ (b : Int) = k := by
  rw [jb_shl1 k0 (by omega)]
  have e : (2 : Nat) ^ k.toNat < 2 ^ 20 := Nat.pow_lt_pow_right (by decide) (by omega)
  rw [show (2 : Nat) ^ 20 = 1048576 by decide] at e
  refine ⟨⟨Int.natCast_nonneg _, ?_⟩, fun b => ?_⟩
  · generalize (2 : Nat) ^ k.toNat = w at e ⊢
    omega
  · show (((2 : Nat) ^ k.toNat : Nat) : Int).toNat.testBit b = true ↔ _
    rw [Int.toNat_natCast, Nat.testBit_two_pow]
    simp only [decide_eq_true_eq]
    omega
theorem jm_X_sgn {a b r t : ge_D} (ha : a = r ∨ a = ge_ng r) (hb : b = t ∨ b = ge_ng t) : ge_nz (jm_X a b) ↔ ge_nz (jm_X r t) := by
  have e1 : ∀ r t : ge_D, ge_nz (jm_X (ge_ng r) t) ↔ ge_nz (jm_X r t) := by
    intro r t
    simp only [jm_X, ge_ng, ge_nz, Int.neg_mul]
    omega
  have e2 : ∀ r t : ge_D, ge_nz (jm_X r (ge_ng t)) ↔ ge_nz (jm_X r t) := by
    intro r t
    simp only [jm_X, ge_ng, ge_nz, Int.mul_neg]
    omega
  rcases ha with rfl | rfl <;> rcases hb with rfl | rfl
  · exact Iff.rfl
  · exact e2 _ _
  · exact e1 _ _
  · rw [e1, e2]
theorem jm_nz_sgn {a r : ge_D} (ha : a = r ∨ a = ge_ng r) : ge_nz a ↔ ge_nz r := by
  rcases ha with rfl | rfl
  · exact Iff.rfl
  · simp only [ge_ng, ge_nz]
    omega
theorem jm_X_x (r t : ge_R) : jm_X (jm_nor r) (jm_nor t) = ge_x r t := rfl
theorem jm_X_nz {a b : ge_D} (h : ge_nz (jm_X a b)) : ge_nz a ∧ ge_nz b := by
  constructor
  · intro w
    apply h
    simp only [jm_X]
    rw [w.1, w.2.1, w.2.2]
    omega
  · intro w
    apply h
    simp only [jm_X]
    rw [w.1, w.2.1, w.2.2]
    omega
def jm_key (β : List (Nat × ge_R)) : Prop := ∀ (b : Nat) (r t : ge_R), (b, r) ∈ β → (b, t) ∈ β → r = t
theorem jm_vr_z {q : Int} {β : List (Nat × ge_R)} {x : ge_R} (fx : ge_F (jm_RR q β) x) : (q ≤ 2 → x.2.2.1 = 0) ∧ (q ≤ 1 → x.2.1 = 0) := by
  refine ⟨fun hq => ?_, fun hq => ?_⟩
  · have m : ∀ r ∈ ([(0, 0, 1, 0), (0, 0, -1, 0)] : List ge_R), r ∈ jm_RR q β := fun r hr => List.mem_append_right _ (List.mem_append_left _ (by rw [if_pos hq]; exact hr))
    have h1 := fx.2 _ (m (0, 0, 1, 0) (by simp))
    have h2 := fx.2 _ (m (0, 0, -1, 0) (by simp))
    simp only [ge_s] at h1 h2
    omega
  · have m : ∀ r ∈ ([(0, 1, 0, 0), (0, -1, 0, 0)] : List ge_R), r ∈ jm_RR q β := fun r hr => List.mem_append_right _ (List.mem_append_right _ (by rw [if_pos hq]; exact hr))
    have h1 := fx.2 _ (m (0, 1, 0, 0) (by simp))
    have h2 := fx.2 _ (m (0, -1, 0, 0) (by simp))
    simp only [ge_s] at h1 h2
    omega
theorem jm_vr_nz {q : Int} {r : ge_R} (h : r ∈ jm_vr q) : (q ≤ 1 ∨ (q ≤ 2 ∧ r.1 = 0 ∧ r.2.1 = 0)) := by
  unfold jm_vr at h
  by_cases h1 : q ≤ 1
  · exact .inl h1
  · rw [if_neg h1, List.append_nil] at h
    by_cases h2 : q ≤ 2
    · rw [if_pos h2] at h
      right
      refine ⟨h2, ?_⟩
      simp only [List.mem_cons, List.not_mem_nil, or_false] at h
      rcases h with rfl | rfl <;> exact ⟨rfl, rfl⟩
    · rw [if_neg h2] at h
      exact absurd h List.not_mem_nil
/-- what the bits say of a line is so -/
theorem jm_LL_ed {σ : jw_H} {β : List (Nat × ge_R)} {x y : ge_R} {s t : Int} (q1 : 1 ≤ σ 103 3) (q2 : σ 103 3 ≤ 3) (hn : jm_nrm σ β) (hf : jm_flat (σ 103 3) β) (hk : jm_key β) (hx : jm_tau β x s) (hy : jm_tau β y t) (fx : ge_F (jm_RR (σ 103 3) β) x) (fy : ge_F (jm_RR (σ 103 3) β) y) : jm_LL σ (jw_and s t) ↔ ge_ed (jm_RR (σ 103 3) β) x y := by
  obtain ⟨s0, s1, hs⟩ := hx
  obtain ⟨t0, t1, ht⟩ := hy
  have inb : ∀ b : Nat, b < 20 → (jb_in (jw_and s t) b ↔ ∃ r, (b, r) ∈ β ∧ ge_s r x = 0 ∧ ge_s r y = 0) := fun b hb => by
    rw [jm_and_in ⟨s0, s1⟩ ⟨t0, t1⟩, hs b hb, ht b hb]
    constructor
    · rintro ⟨⟨r, hr, e1⟩, r', hr', e2⟩
      rw [hk b r' r hr' hr] at e2
      exact ⟨r, hr, e1, e2⟩
    · rintro ⟨r, hr, e1, e2⟩
      exact ⟨⟨r, hr, e1⟩, r, hr, e2⟩
  have inA : ∀ k : Int, 0 ≤ k → k < 20 → (jm_A σ (jw_and s t) k ↔ ∃ r, (k.toNat, r) ∈ β ∧ ge_s r x = 0 ∧ ge_s r y = 0 ∧ ge_nz (jm_nor r)) := fun k k0 k1 => by
    unfold jm_A
    rw [inb k.toNat (by omega)]
    have ek : ((k.toNat : Nat) : Int) = k := Int.toNat_of_nonneg k0
    constructor
    · rintro ⟨⟨r, hr, e1, e2⟩, hz⟩
      have := (hn _ _ hr).2
      rw [ek] at this
      exact ⟨r, hr, e1, e2, (jm_nz_sgn this).mp hz⟩
    · rintro ⟨r, hr, e1, e2, hz⟩
      have := (hn _ _ hr).2
      rw [ek] at this
      exact ⟨⟨r, hr, e1, e2⟩, (jm_nz_sgn this).mpr hz⟩
  have inB : ∀ r ∈ β.map Prod.snd, ∃ b : Nat, (b, r) ∈ β := fun r hr => by
    obtain ⟨z, hz, rfl⟩ := List.mem_map.mp hr
    exact ⟨z.1, hz⟩
  obtain ⟨zx, yx⟩ := jm_vr_z fx
  obtain ⟨zy, yy⟩ := jm_vr_z fy
  generalize hq : σ 103 3 = q at *
  constructor
  · rintro (h | ⟨h, k, k0, k1, hA⟩ | ⟨h, k, l, k0, k1, l0, l1, hA, hB, hX⟩)
    · rw [hq] at h
      subst h
      refine ⟨(0, 1, 0, 0), List.mem_append_right _ (by simp [jm_vr]), (0, 0, 1, 0), List.mem_append_right _ (by simp [jm_vr]), ?_, ?_, ?_, ?_, ?_⟩
      · have := yx (by omega)
        simp only [ge_s]
        omega
      · have := yy (by omega)
        simp only [ge_s]
        omega
      · have := zx (by omega)
        simp only [ge_s]
        omega
      · have := zy (by omega)
        simp only [ge_s]
        omega
      · simp [ge_nz, ge_x]
    · rw [hq] at h
      subst h
      obtain ⟨r, hr, e1, e2, hz⟩ := (inA k k0 k1).mp hA
      refine ⟨r, List.mem_append_left _ (List.mem_map.mpr ⟨_, hr, rfl⟩), (0, 0, 1, 0), List.mem_append_right _ (by simp [jm_vr]), e1, e2, ?_, ?_, ?_⟩
      · have := zx (by omega)
        simp only [ge_s]
        omega
      · have := zy (by omega)
        simp only [ge_s]
        omega
      · have := (hf _ _ hr).1 (by omega)
        simp only [ge_nz, ge_x, jm_nor] at hz ⊢
        omega
    · obtain ⟨r, hr, e1, e2, hz⟩ := (inA k k0 k1).mp hA
      obtain ⟨u, hu, e3, e4, hz2⟩ := (inA l l0 l1).mp hB
      have n1 := (hn _ _ hr).2
      have n2 := (hn _ _ hu).2
      rw [Int.toNat_of_nonneg k0] at n1
      rw [Int.toNat_of_nonneg l0] at n2
      have := (jm_X_sgn n1 n2).mp hX
      rw [jm_X_x] at this
      exact ⟨r, List.mem_append_left _ (List.mem_map.mpr ⟨_, hr, rfl⟩), u, List.mem_append_left _ (List.mem_map.mpr ⟨_, hu, rfl⟩), e1, e2, e3, e4, this⟩
  · rintro ⟨r, hr, u, hu, e1, e2, e3, e4, hX⟩
    have hX2 : ge_nz (jm_X (jm_nor r) (jm_nor u)) := hX
    obtain ⟨z1, z2⟩ := jm_X_nz hX2
    by_cases h1 : q = 1
    · exact .inl (hq.trans h1)
    · by_cases h2 : q = 2
      · right
        left
        refine ⟨hq.trans h2, ?_⟩
        have key : ∀ v ∈ β.map Prod.snd, ge_s v x = 0 → ge_s v y = 0 → ge_nz (jm_nor v) → ∃ k, 0 ≤ k ∧ k < 20 ∧ jm_A σ (jw_and s t) k := fun v hv a1 a2 a3 => by
          obtain ⟨b, hb⟩ := inB v hv
          have hb20 := (hn _ _ hb).1
          exact ⟨(b : Int), by omega, by omega, (inA b (by omega) (by omega)).mpr ⟨v, by rw [Int.toNat_natCast]; exact hb, a1, a2, a3⟩⟩
        rcases List.mem_append.mp hr with hr | hr
        · exact key r hr e1 e2 z1
        · rcases List.mem_append.mp hu with hu | hu
          · exact key u hu e3 e4 z2
          · rcases jm_vr_nz hr with a | ⟨-, a1, a2⟩
            · omega
            · rcases jm_vr_nz hu with b | ⟨-, b1, b2⟩
              · omega
              · exfalso
                apply hX
                simp only [ge_x]
                rw [a1, a2, b1, b2]
                omega
      · right
        right
        refine ⟨by omega, ?_⟩
        have nov : ∀ v, v ∈ jm_vr q → False := fun v hv => by
          rcases jm_vr_nz hv with a | ⟨a, -⟩ <;> omega
        rcases List.mem_append.mp hr with hr | hr
        · rcases List.mem_append.mp hu with hu | hu
          · obtain ⟨b, hb⟩ := inB r hr
            obtain ⟨c, hc⟩ := inB u hu
            have n1 := hn _ _ hb
            have n2 := hn _ _ hc
            refine ⟨(b : Int), (c : Int), by omega, by omega, by omega, by omega, (inA b (by omega) (by omega)).mpr ⟨r, by rw [Int.toNat_natCast]; exact hb, e1, e2, z1⟩, (inA c (by omega) (by omega)).mpr ⟨u, by rw [Int.toNat_natCast]; exact hc, e3, e4, z2⟩, ?_⟩
            rw [jm_X_sgn n1.2 n2.2]
            exact hX2
          · exact (nov u hu).elim
        · exact (nov r hr).elim

/-! ===== turn: pure: where a corner begins or ends to be best ===== -/
theorem jn_fle {p q r s t v : Int} (hq : 0 < q) (hs : 0 < s) (hv : 0 < v) (h1 : p * s ≤ r * q) (h2 : r * v ≤ t * s) : p * v ≤ t * q := by
  have e1 := Int.mul_le_mul_of_nonneg_left h1 (Int.le_of_lt hv)
  have e2 := Int.mul_le_mul_of_nonneg_left h2 (Int.le_of_lt hq)
  have k1 : v * (p * s) = s * (p * v) := by grind
  have k2 : v * (r * q) = q * (r * v) := by grind
  have k3 : q * (t * s) = s * (t * q) := by grind
  exact Int.le_of_mul_le_mul_left (a := s) (by omega) hs
/-- best, of so many, at a share -/
def jn_inI (A B : Int → Int) (m : Nat) (u l : Int) : Prop := ∀ c : Int, 0 ≤ c → c < m → 0 ≤ u * A c + (l - u) * B c
theorem jn_sh_pos (A B : Int → Int) : ∀ m : Nat, (0 ≤ (jm_sh A B m).1 ∧ 0 < (jm_sh A B m).2.1) ∧ ((jm_sh A B m).2.2.1 ≤ (jm_sh A B m).2.2.2 ∧ 0 < (jm_sh A B m).2.2.2)
  | 0 => by
    unfold jm_sh
    dsimp only
    omega
  | m + 1 => by
    have h := jn_sh_pos A B m
    unfold jm_sh jm_st
    generalize jm_sh A B m = s at *
    obtain ⟨s1, s2, s3, s4⟩ := s
    dsimp only at *
    generalize A (m : Int) = a at *
    generalize B (m : Int) = b at *
    split
    · split
      · rename_i h1 h2
        dsimp only
        have h3 : 0 ≤ s1 * (a - b) := Int.mul_nonneg h.1.1 (by omega)
        have h4 : ¬ (-b ≤ 0) := fun hh => by
          have := ge_mul_np hh (Int.le_of_lt h.1.2)
          omega
        omega
      · exact h
    · split
      · split
        · rename_i h1 h2 h3
          dsimp only
          have h4 := Int.mul_le_mul_of_nonneg_right h.2.1 (show 0 ≤ -(a - b) by omega)
          have h5 : s4 * b < s4 * -(a - b) := by
            rw [Int.mul_comm s4 b]
            omega
          have h6 := Int.lt_of_mul_lt_mul_left h5 (Int.le_of_lt h.2.2)
          omega
        · exact h
      · exact h
theorem jn_inI_s {A B : Int → Int} {m : Nat} {u l : Int} : jn_inI A B (m + 1) u l ↔ jn_inI A B m u l ∧ 0 ≤ u * A (m : Int) + (l - u) * B (m : Int) := by
  constructor
  · intro h
    exact ⟨fun c c0 c1 => h c c0 (by omega), h (m : Int) (by omega) (by omega)⟩
  · rintro ⟨h1, h2⟩ c c0 c1
    by_cases e : c = (m : Int)
    · rw [e]
      exact h2
    · exact h1 c c0 (by omega)
/-- the shares at which a corner is best: from the least to the greatest -/
theorem jn_sh_in {A B : Int → Int} {u l : Int} (l0 : 0 < l) (u0 : 0 ≤ u) (u1 : u ≤ l) : ∀ {m : Nat}, jn_inI A B m u l ↔ (∀ c : Int, 0 ≤ c → c < m → A c = B c → 0 ≤ B c) ∧ (jm_sh A B m).1 * l ≤ u * (jm_sh A B m).2.1 ∧ u * (jm_sh A B m).2.2.2 ≤ (jm_sh A B m).2.2.1 * l
  | 0 => by
    unfold jm_sh
    dsimp only
    constructor
    · intro _
      exact ⟨fun c c0 c1 => by omega, by omega, by omega⟩
    · intro _ c c0 c1
      omega
  | m + 1 => by
    have hp := jn_sh_pos A B m
    rw [jn_inI_s, jn_sh_in l0 u0 u1 (m := m), show jm_sh A B (m + 1) = jm_st (A (m : Int)) (B (m : Int)) (jm_sh A B m) from rfl]
    unfold jm_st
    generalize jm_sh A B m = s at *
    obtain ⟨s1, s2, s3, s4⟩ := s
    dsimp only at *
    have hall : (∀ c : Int, 0 ≤ c → c < ((m + 1 : Nat) : Int) → A c = B c → 0 ≤ B c) ↔ (∀ c : Int, 0 ≤ c → c < (m : Int) → A c = B c → 0 ≤ B c) ∧ (A (m : Int) = B (m : Int) → 0 ≤ B (m : Int)) := by
      constructor
      · intro h
        exact ⟨fun c c0 c1 => h c c0 (by omega), h (m : Int) (by omega) (by omega)⟩
      · rintro ⟨h1, h2⟩ c c0 c1
        by_cases e : c = (m : Int)
        · rw [e]
          exact h2
        · exact h1 c c0 (by omega)
    rw [hall]
    have key : u * A (m : Int) + (l - u) * B (m : Int) = u * (A (m : Int) - B (m : Int)) + l * B (m : Int) := by grind
    rw [key]
    generalize A (m : Int) = a at *
    generalize B (m : Int) = b at *
    generalize (∀ c : Int, 0 ≤ c → c < (m : Int) → A c = B c → 0 ≤ B c) = P
    have kb : -b * l = -(l * b) := by grind
    split
    · rename_i h1
      have hne : (a = b → 0 ≤ b) := fun e => by omega
      split
      · rename_i h2
        dsimp only
        constructor
        · rintro ⟨⟨g1, g2, g3⟩, g4⟩
          exact ⟨⟨g1, hne⟩, by omega, g3⟩
        · rintro ⟨⟨g1, -⟩, g2, g3⟩
          exact ⟨⟨g1, jn_fle hp.1.2 h1 l0 (Int.le_of_lt h2) g2, g3⟩, by omega⟩
      · rename_i h2
        constructor
        · rintro ⟨⟨g1, g2, g3⟩, g4⟩
          exact ⟨⟨g1, hne⟩, g2, g3⟩
        · rintro ⟨⟨g1, -⟩, g2, g3⟩
          have := jn_fle (p := -b) (q := a - b) (r := s1) (s := s2) (t := u) (v := l) h1 hp.1.2 l0 (by omega) g2
          exact ⟨⟨g1, g2, g3⟩, by omega⟩
    · rename_i h1
      split
      · rename_i h2
        have hne : (a = b → 0 ≤ b) := fun e => by omega
        have kc : u * -(a - b) = -(u * (a - b)) := by grind
        have kd : b * l = l * b := Int.mul_comm _ _
        split
        · rename_i h3
          dsimp only
          constructor
          · rintro ⟨⟨g1, g2, g3⟩, g4⟩
            exact ⟨⟨g1, hne⟩, g2, by omega⟩
          · rintro ⟨⟨g1, -⟩, g2, g3⟩
            exact ⟨⟨g1, g2, jn_fle (p := u) (q := l) (r := b) (s := -(a - b)) (t := s3) (v := s4) l0 (by omega) hp.2.2 g3 (Int.le_of_lt h3)⟩, by omega⟩
        · rename_i h3
          constructor
          · rintro ⟨⟨g1, g2, g3⟩, g4⟩
            exact ⟨⟨g1, hne⟩, g2, g3⟩
          · rintro ⟨⟨g1, -⟩, g2, g3⟩
            have := jn_fle (p := u) (q := l) (r := s3) (s := s4) (t := b) (v := -(a - b)) l0 hp.2.2 (by omega) g3 (by omega)
            exact ⟨⟨g1, g2, g3⟩, by omega⟩
      · rename_i h2
        have e : a = b := by omega
        have kz : u * (a - b) = 0 := by rw [show a - b = 0 by omega, Int.mul_zero]
        have kl : 0 ≤ l * b ↔ 0 ≤ b := ⟨fun hh => Int.nonneg_of_mul_nonneg_right hh l0, fun hh => Int.mul_nonneg (Int.le_of_lt l0) hh⟩
        constructor
        · rintro ⟨⟨g1, g2, g3⟩, g4⟩
          exact ⟨⟨g1, fun _ => kl.mp (by omega)⟩, g2, g3⟩
        · rintro ⟨⟨g1, g4⟩, g2, g3⟩
          have := kl.mpr (g4 e)
          exact ⟨⟨g1, g2, g3⟩, by omega⟩
/-- the ends are where another one has as much -/
theorem jn_sh_at (A B : Int → Int) : ∀ m : Nat, (((jm_sh A B m).1 = 0 ∧ (jm_sh A B m).2.1 = 1) ∨ ∃ c : Int, 0 ≤ c ∧ c < m ∧ B c < A c ∧ (jm_sh A B m).1 = -B c ∧ (jm_sh A B m).2.1 = A c - B c) ∧ (((jm_sh A B m).2.2.1 = 1 ∧ (jm_sh A B m).2.2.2 = 1) ∨ ∃ c : Int, 0 ≤ c ∧ c < m ∧ A c < B c ∧ (jm_sh A B m).2.2.1 = B c ∧ (jm_sh A B m).2.2.2 = B c - A c)
  | 0 => ⟨.inl ⟨rfl, rfl⟩, .inl ⟨rfl, rfl⟩⟩
  | m + 1 => by
    obtain ⟨h1, h2⟩ := jn_sh_at A B m
    have w1 : ((jm_sh A B m).1 = 0 ∧ (jm_sh A B m).2.1 = 1) ∨ ∃ c : Int, 0 ≤ c ∧ c < ((m + 1 : Nat) : Int) ∧ B c < A c ∧ (jm_sh A B m).1 = -B c ∧ (jm_sh A B m).2.1 = A c - B c := h1.imp id (fun ⟨c, a1, a2, a3⟩ => ⟨c, a1, by omega, a3⟩)
    have w2 : ((jm_sh A B m).2.2.1 = 1 ∧ (jm_sh A B m).2.2.2 = 1) ∨ ∃ c : Int, 0 ≤ c ∧ c < ((m + 1 : Nat) : Int) ∧ A c < B c ∧ (jm_sh A B m).2.2.1 = B c ∧ (jm_sh A B m).2.2.2 = B c - A c := h2.imp id (fun ⟨c, a1, a2, a3⟩ => ⟨c, a1, by omega, a3⟩)
    show ((((jm_st (A (m : Int)) (B (m : Int)) (jm_sh A B m)).1 = 0 ∧ (jm_st (A (m : Int)) (B (m : Int)) (jm_sh A B m)).2.1 = 1) ∨ ∃ c : Int, 0 ≤ c ∧ c < ((m + 1 : Nat) : Int) ∧ B c < A c ∧ (jm_st (A (m : Int)) (B (m : Int)) (jm_sh A B m)).1 = -B c ∧ (jm_st (A (m : Int)) (B (m : Int)) (jm_sh A B m)).2.1 = A c - B c) ∧ (((jm_st (A (m : Int)) (B (m : Int)) (jm_sh A B m)).2.2.1 = 1 ∧ (jm_st (A (m : Int)) (B (m : Int)) (jm_sh A B m)).2.2.2 = 1) ∨ ∃ c : Int, 0 ≤ c ∧ c < ((m + 1 : Nat) : Int) ∧ A c < B c ∧ (jm_st (A (m : Int)) (B (m : Int)) (jm_sh A B m)).2.2.1 = B c ∧ (jm_st (A (m : Int)) (B (m : Int)) (jm_sh A B m)).2.2.2 = B c - A c))
    unfold jm_st
    split
    · split
      · exact ⟨.inr ⟨(m : Int), by omega, by omega, by omega, rfl, rfl⟩, w2⟩
      · exact ⟨w1, w2⟩
    · split
      · split
        · exact ⟨w1, .inr ⟨(m : Int), by omega, by omega, by omega, rfl, by dsimp only; omega⟩⟩
        · exact ⟨w1, w2⟩
      · exact ⟨w1, w2⟩
/-- a share at which another one comes to be best, or ceases to -/
def jn_t1 (A B : Int → Int) (m : Nat) (u l : Int) : Prop := jn_inI A B m u l ∧ ∃ c : Int, (0 ≤ c ∧ c < m) ∧ u * A c + (l - u) * B c = 0 ∧ ((0 < A c ∧ B c < 0) ∨ (A c < 0 ∧ 0 < B c))
def jn_ends (A B : Int → Int) (m : Nat) (u l : Int) : Prop := ((0 < (jm_sh A B m).1 ∧ (jm_sh A B m).1 < (jm_sh A B m).2.1) ∧ u * (jm_sh A B m).2.1 = (jm_sh A B m).1 * l) ∨ ((0 < (jm_sh A B m).2.2.1 ∧ (jm_sh A B m).2.2.1 < (jm_sh A B m).2.2.2) ∧ u * (jm_sh A B m).2.2.2 = (jm_sh A B m).2.2.1 * l)
theorem jn_mid {u l a b : Int} (l0 : 0 < l) (h : u * a + (l - u) * b = 0) (hs : (0 < a ∧ b < 0) ∨ (a < 0 ∧ 0 < b)) : 0 < u ∧ u < l := by
  have key : u * (a - b) = -(l * b) := by grind
  have key2 : (l - u) * (a - b) = l * a := by grind
  rcases hs with ⟨h1, h2⟩ | ⟨h1, h2⟩
  · have e1 : 0 < u * (a - b) := by
      rw [key]
      have := Int.mul_pos l0 (show 0 < -b by omega)
      rw [Int.mul_neg] at this
      exact this
    have e2 : 0 < (l - u) * (a - b) := by
      rw [key2]
      exact Int.mul_pos l0 h1
    have f1 := Int.pos_of_mul_pos_left e1 (show 0 < a - b by omega)
    have f2 := Int.pos_of_mul_pos_left e2 (show 0 < a - b by omega)
    omega
  · have e1 : 0 < u * (b - a) := by
      have : u * (b - a) = l * b := by grind
      rw [this]
      exact Int.mul_pos l0 h2
    have e2 : 0 < (l - u) * (b - a) := by
      have : (l - u) * (b - a) = l * -a := by grind
      rw [this]
      exact Int.mul_pos l0 (by omega)
    have f1 := Int.pos_of_mul_pos_left e1 (show 0 < b - a by omega)
    have f2 := Int.pos_of_mul_pos_left e2 (show 0 < b - a by omega)
    omega
theorem jn_t1_iff {A B : Int → Int} {m : Nat} {u l : Int} (l0 : 0 < l) : jn_t1 A B m u l ↔ jm_hs A B (m : Int) ∧ jn_ends A B m u l := by
  have hp := jn_sh_pos A B m
  have ha := jn_sh_at A B m
  have hin := fun (u l : Int) (l0 : 0 < l) (u0 : 0 ≤ u) (u1 : u ≤ l) => jn_sh_in (A := A) (B := B) (m := m) l0 u0 u1
  unfold jm_hs jm_le jn_ends
  rw [Int.toNat_natCast]
  generalize jm_sh A B m = s at *
  obtain ⟨s1, s2, s3, s4⟩ := s
  dsimp only at *
  constructor
  · rintro ⟨h1, c, hc, h2, h3⟩
    obtain ⟨u0, u1⟩ := jn_mid l0 h2 h3
    obtain ⟨g1, g2, g3⟩ := (hin u l l0 (by omega) (by omega)).mp h1
    have hle : s1 * s4 ≤ s3 * s2 := by
      have := jn_fle (p := s1) (q := s2) (r := u) (s := l) (t := s3) (v := s4) hp.1.2 l0 hp.2.2 g2 g3
      exact this
    refine ⟨⟨g1, hle⟩, ?_⟩
    have s12 : s1 ≤ s2 := by
      have h5 := jn_fle (p := s1) (q := s2) (r := s3) (s := s4) (t := 1) (v := 1) hp.1.2 hp.2.2 (by omega) hle (by omega)
      omega
    have s30 : 0 ≤ s3 := by
      have h5 := jn_fle (p := 0) (q := 1) (r := s1) (s := s2) (t := s3) (v := s4) (by omega) hp.1.2 hp.2.2 (by omega) hle
      omega
    have key : u * (A c - B c) + l * B c = 0 := by rw [← h2]; grind
    rcases h3 with ⟨h3, h4⟩ | ⟨h3, h4⟩
    · left
      have hi := (hin s1 s2 hp.1.2 hp.1.1 s12).mpr ⟨g1, Int.le_of_eq (by rw [Int.mul_comm]), hle⟩
      have hi2 := hi c hc.1 hc.2
      have key2 : s1 * A c + (s2 - s1) * B c = s1 * (A c - B c) + s2 * B c := by grind
      rw [key2] at hi2
      -- u/l is not above the least
      have e : u * s2 ≤ s1 * l := by
        refine Int.le_of_mul_le_mul_left (a := A c - B c) ?_ (by omega)
        have k1 : (A c - B c) * (u * s2) = s2 * (u * (A c - B c)) := by grind
        have k2 : (A c - B c) * (s1 * l) = l * (s1 * (A c - B c)) := by grind
        have k3 := Int.mul_nonneg (Int.le_of_lt l0) hi2
        have k4 : l * (s1 * (A c - B c) + s2 * B c) = l * (s1 * (A c - B c)) + s2 * (l * B c) := by grind
        have k5 : s2 * (u * (A c - B c)) = -(s2 * (l * B c)) := by
          have : u * (A c - B c) = -(l * B c) := by omega
          rw [this, Int.mul_neg]
        omega
      have e2 : u * s2 = s1 * l := by omega
      refine ⟨⟨?_, ?_⟩, e2⟩
      · have := Int.mul_pos u0 hp.1.2
        rw [e2] at this
        exact Int.pos_of_mul_pos_left this l0
      · have h5 : s1 * l < s2 * l := by
          rw [← e2, Int.mul_comm s2]
          exact Int.mul_lt_mul_of_pos_right u1 hp.1.2
        exact Int.lt_of_mul_lt_mul_right h5 (Int.le_of_lt l0)
    · right
      have hi := (hin s3 s4 hp.2.2 s30 hp.2.1).mpr ⟨g1, hle, Int.le_of_eq rfl⟩
      have hi2 := hi c hc.1 hc.2
      have key2 : s3 * A c + (s4 - s3) * B c = s3 * (A c - B c) + s4 * B c := by grind
      rw [key2] at hi2
      have e : s3 * l ≤ u * s4 := by
        refine Int.le_of_mul_le_mul_left (a := B c - A c) ?_ (by omega)
        have k1 : (B c - A c) * (u * s4) = -(s4 * (u * (A c - B c))) := by grind
        have k2 : (B c - A c) * (s3 * l) = -(l * (s3 * (A c - B c))) := by grind
        have k3 := Int.mul_nonneg (Int.le_of_lt l0) hi2
        have k4 : l * (s3 * (A c - B c) + s4 * B c) = l * (s3 * (A c - B c)) + s4 * (l * B c) := by grind
        have k5 : s4 * (u * (A c - B c)) = -(s4 * (l * B c)) := by
          have : u * (A c - B c) = -(l * B c) := by omega
          rw [this, Int.mul_neg]
        omega
      have e2 : u * s4 = s3 * l := by omega
      refine ⟨⟨?_, ?_⟩, e2⟩
      · have := Int.mul_pos u0 hp.2.2
        rw [e2] at this
        exact Int.pos_of_mul_pos_left this l0
      · have h5 : s3 * l < s4 * l := by
          rw [← e2, Int.mul_comm s4]
          exact Int.mul_lt_mul_of_pos_right u1 hp.2.2
        exact Int.lt_of_mul_lt_mul_right h5 (Int.le_of_lt l0)
  · rintro ⟨⟨g1, hle⟩, ⟨⟨h1, h2⟩, h3⟩ | ⟨⟨h1, h2⟩, h3⟩⟩
    · have u0 : 0 < u := by
        have := Int.mul_pos h1 l0
        rw [← h3] at this
        exact Int.pos_of_mul_pos_left this hp.1.2
      have u1 : u < l := by
        have h5 : u * s2 < l * s2 := by
          rw [h3, Int.mul_comm l]
          exact Int.mul_lt_mul_of_pos_right h2 l0
        exact Int.lt_of_mul_lt_mul_right h5 (Int.le_of_lt hp.1.2)
      refine ⟨(hin u l l0 (by omega) (by omega)).mpr ⟨g1, by omega, jn_fle (p := u) (q := l) (r := s1) (s := s2) (t := s3) (v := s4) l0 hp.1.2 hp.2.2 (by omega) hle⟩, ?_⟩
      rcases ha.1 with ⟨a1, -⟩ | ⟨c, c0, c1, a1, a2, a3⟩
      · omega
      · refine ⟨c, ⟨c0, c1⟩, ?_, .inl (by omega)⟩
        have : u * A c + (l - u) * B c = u * s2 - s1 * l := by
          rw [a2, a3]
          grind
        omega
    · have u0 : 0 < u := by
        have := Int.mul_pos h1 l0
        rw [← h3] at this
        exact Int.pos_of_mul_pos_left this hp.2.2
      have u1 : u < l := by
        have h5 : u * s4 < l * s4 := by
          rw [h3, Int.mul_comm l]
          exact Int.mul_lt_mul_of_pos_right h2 l0
        exact Int.lt_of_mul_lt_mul_right h5 (Int.le_of_lt hp.2.2)
      refine ⟨(hin u l l0 (by omega) (by omega)).mpr ⟨g1, jn_fle (p := s1) (q := s2) (r := s3) (s := s4) (t := u) (v := l) hp.1.2 hp.2.2 l0 hle (by omega), by omega⟩, ?_⟩
      rcases ha.2 with ⟨a1, a2⟩ | ⟨c, c0, c1, a1, a2, a3⟩
      · omega
      · refine ⟨c, ⟨c0, c1⟩, ?_, .inr (by omega)⟩
        have : u * A c + (l - u) * B c = s3 * l - u * s4 := by
          rw [a2, a3]
          grind
        omega

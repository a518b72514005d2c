/-! ===== regret ===== -/
/-- the first corner with most of a wish -/
noncomputable def jm_bst (σ : jw_H) (w : Int) : Int := @Classical.epsilon Int ⟨0⟩ (fun b => jm_mst σ w (σ 103 56) b)
theorem jm_bst_eq {σ : jw_H} {w b : Int} (h : jm_mst σ w (σ 103 56) b) : jm_bst σ w = b := jm_mst_uq (@Classical.epsilon_spec Int (fun b => jm_mst σ w (σ 103 56) b) ⟨b, h⟩) h
/-- what a corner lacks of the most, over the lower numbers; the greatest so far -/
noncomputable def jm_rgd (σ : jw_H) (i w : Int) : Int := jm_mw σ w (jm_bst σ w) i
noncomputable def jm_rgl (σ : jw_H) (i w : Int) : Int := σ 135 (jm_bst σ w) * σ 135 i
noncomputable def jm_rg (σ : jw_H) (i : Int) : Nat → Int × Int
  | 0 => (0, 1)
  | w + 1 => if (jm_rg σ i w).1 * jm_rgl σ i w < jm_rgd σ i w * (jm_rg σ i w).2 then jx_fr (jm_rgd σ i w) (jm_rgl σ i w) else jm_rg σ i w
theorem jx_fr_id {u l : Int} (h : 0 < l) : jx_fr (jx_fr u l).1 (jx_fr u l).2 = jx_fr u l := by
  obtain ⟨g, g0, e1, e2⟩ := jx_fr_gl (u := u) h
  refine jx_fr_eq (jx_fr_pos (by omega)) h ?_
  have h1 : (jx_fr u l).1 * l = (jx_fr u l).1 * ((jx_fr u l).2 * g) := by rw [← e2]
  have h2 : u * (jx_fr u l).2 = (jx_fr u l).1 * g * (jx_fr u l).2 := by rw [← e1]
  rw [h1, h2, Int.mul_assoc, Int.mul_comm g]
theorem jm_rg_s {σ : jw_H} {i w : Int} (w0 : 0 ≤ w) : jm_rg σ i (w + 1).toNat = if (jm_rg σ i w.toNat).1 * jm_rgl σ i w < jm_rgd σ i w * (jm_rg σ i w.toNat).2 then jx_fr (jm_rgd σ i w) (jm_rgl σ i w) else jm_rg σ i w.toNat := by
  rw [show (w + 1).toNat = w.toNat + 1 by omega]
  conv => lhs; unfold jm_rg
  rw [Int.toNat_of_nonneg w0]
def jm_rb (s : Int × Int) : Prop := (-9000000 ≤ s.1 ∧ s.1 ≤ 9000000) ∧ (0 < s.2 ∧ s.2 ≤ 9000000)
theorem jm_rg_bd {σ : jw_H} {i : Int} : ∀ {w : Nat}, (∀ c : Int, 0 ≤ c → c < w → (-9000000 ≤ jm_rgd σ i c ∧ jm_rgd σ i c ≤ 9000000) ∧ (0 < jm_rgl σ i c ∧ jm_rgl σ i c ≤ 9000000)) → jm_rb (jm_rg σ i w) ∧ jx_fr (jm_rg σ i w).1 (jm_rg σ i w).2 = jm_rg σ i w
  | 0, _ => by
    refine ⟨?_, ?_⟩
    · unfold jm_rb jm_rg
      dsimp only
      omega
    · show jx_fr 0 1 = (0, 1)
      decide
  | w + 1, h => by
    have ih := jm_rg_bd (w := w) (fun c c0 c1 => h c c0 (by omega))
    have hc := h w (by omega) (by omega)
    unfold jm_rg
    split
    · refine ⟨?_, jx_fr_id hc.2.1⟩
      have := jx_fr_bd (u := jm_rgd σ i w) hc.2.1 hc.2.2 hc.1
      unfold jm_rb
      exact this
    · exact ih
theorem jm_rgd_bd {σ : jw_H} {i w : Int} (hP : jm_Pb σ) (hcb : jm_cbd σ) (i0 : 0 ≤ i) (i1 : i < σ 103 56) (w0 : 0 ≤ w) (w1 : w < σ 103 4) {b : Int} (hb : jm_mst σ w (σ 103 56) b) : (-9000000 ≤ jm_rgd σ i w ∧ jm_rgd σ i w ≤ 9000000) ∧ (0 < jm_rgl σ i w ∧ jm_rgl σ i w ≤ 9000000) := by
  have e := jm_bst_eq hb
  have h1 := jm_mw_bd hP hcb w0 w1 hb.1.1 hb.1.2 i0 i1
  have c1 := jm_cw hcb hb.1.1 hb.1.2
  have c2 := jm_cw hcb i0 i1
  have d1 : σ 135 b ≤ 162 := (hcb.2 b hb.1.1 hb.1.2).2
  have d2 : σ 135 i ≤ 162 := (hcb.2 i i0 i1).2
  unfold jm_rgd jm_rgl
  rw [e]
  have m1 := Int.mul_pos c1 c2
  have m2 := Int.mul_le_mul_of_nonneg_right d1 (Int.le_of_lt c2)
  omega
theorem jm_mst_ex {σ : jw_H} (hcb : jm_cbd σ) (hn : 0 < σ 103 56) (w : Int) : ∃ b, jm_mst σ w (σ 103 56) b := by
  have key : ∀ m : Nat, (m : Int) + 1 ≤ σ 103 56 → ∃ b, jm_mst σ w ((m : Int) + 1) b := by
    intro m
    induction m with
    | zero =>
      intro _
      refine ⟨0, ⟨by omega, by omega⟩, fun i i0 i1 => ?_⟩
      have : i = 0 := by omega
      rw [this]
      unfold jm_wl
      omega
    | succ m ih =>
      intro hm
      obtain ⟨b, hb⟩ := ih (by omega)
      by_cases hw : jm_wl σ w b ((m : Int) + 1)
      · refine ⟨(m : Int) + 1, ?_⟩
        have := jm_mst_yes hcb (by omega) hb hw
        rw [show ((m + 1 : Nat) : Int) + 1 = (m : Int) + 1 + 1 by omega]
        exact this
      · refine ⟨b, ?_⟩
        have := jm_mst_no hb hw
        rw [show ((m + 1 : Nat) : Int) + 1 = (m : Int) + 1 + 1 by omega]
        exact this
  have := key (σ 103 56 - 1).toNat (by omega)
  rw [show (((σ 103 56 - 1).toNat : Nat) : Int) + 1 = σ 103 56 by omega] at this
  exact this
theorem jm_rg_ok {σ : jw_H} {i w : Int} (hP : jm_Pb σ) (hcb : jm_cbd σ) (i0 : 0 ≤ i) (i1 : i < σ 103 56) (w0 : 0 ≤ w) (w1 : w ≤ σ 103 4) : jm_rb (jm_rg σ i w.toNat) ∧ jx_fr (jm_rg σ i w.toNat).1 (jm_rg σ i w.toNat).2 = jm_rg σ i w.toNat :=
  jm_rg_bd (fun c c0 c1 => by
    obtain ⟨b, hb⟩ := jm_mst_ex hcb (by omega) c
    exact jm_rgd_bd hP hcb i0 i1 c0 (by omega) hb)
/-- the regret of a corner -/
noncomputable def jm_rgt (σ : jw_H) (i : Int) : Int × Int := jm_rg σ i (σ 103 4).toNat
def jm_rlt (s t : Int × Int) : Prop := s.1 * t.2 < t.1 * s.2
/-- the first with the least regret -/
def jm_rgb (σ : jw_H) (m b : Int) : Prop := (0 ≤ b ∧ b < m) ∧ ∀ i, 0 ≤ i → i < m → ¬ jm_rlt (jm_rgt σ i) (jm_rgt σ b) ∧ (i < b → jm_rlt (jm_rgt σ b) (jm_rgt σ i))
theorem jm_rgb_no {σ : jw_H} {m b : Int} (h : jm_rgb σ m b) (hn : ¬ jm_rlt (jm_rgt σ m) (jm_rgt σ b)) : jm_rgb σ (m + 1) b := by
  refine ⟨by have := h.1; omega, fun i i0 i1 => ?_⟩
  by_cases e : i = m
  · rw [e]
    exact ⟨hn, fun hh => by have := h.1; omega⟩
  · exact h.2 i i0 (by omega)
theorem jm_rgb_yes {σ : jw_H} {m b : Int} (hd : ∀ i, 0 ≤ i → i ≤ m → 0 < (jm_rgt σ i).2) (m0 : 0 ≤ m) (h : jm_rgb σ m b) (hy : jm_rlt (jm_rgt σ m) (jm_rgt σ b)) : jm_rgb σ (m + 1) m := by
  have hb := h.1
  refine ⟨by omega, fun i i0 i1 => ?_⟩
  by_cases e : i = m
  · rw [e]
    unfold jm_rlt
    omega
  · have h1 := (h.2 i i0 (by omega)).1
    unfold jm_rlt at *
    have h2 := jx_fl3 (hd m (by omega) (by omega)) (hd b hb.1 (by omega)) (hd i i0 (by omega)) hy (show (jm_rgt σ b).1 * (jm_rgt σ i).2 ≤ (jm_rgt σ i).1 * (jm_rgt σ b).2 by omega)
    exact ⟨by omega, fun _ => h2⟩
theorem jm_rgb_1 (σ : jw_H) : jm_rgb σ 1 0 := ⟨by omega, fun i i0 i1 => by
  have : i = 0 := by omega
  rw [this]
  unfold jm_rlt
  omega⟩
theorem jm_rgb_uq {σ : jw_H} {m b c : Int} (h1 : jm_rgb σ m b) (h2 : jm_rgb σ m c) : b = c := by
  rcases (show b < c ∨ b = c ∨ c < b by omega) with h | h | h
  · exact absurd ((h2.2 b h1.1.1 h1.1.2).2 h) (h1.2 c h2.1.1 h2.1.2).1
  · exact h
  · exact absurd ((h1.2 c h2.1.1 h2.1.2).2 h) (h2.2 b h1.1.1 h1.1.2).1
/-- the answers of regret -/
def jm_rga (σ : jw_H) (t v : Int) : Prop := (v = -1 ∧ ¬ (0 ≤ t ∧ t ≤ 2)) ∨ ((0 ≤ t ∧ t ≤ 2) ∧ ((v = -2 ∧ σ 103 56 = 0) ∨ (σ 103 56 ≠ 0 ∧ ∃ b, jm_rgb σ (σ 103 56) b ∧ v = if t = 2 then b else if t = 0 then (jm_rgt σ b).1 else (jm_rgt σ b).2)))
theorem jm_rga_uq {σ : jw_H} {t u v : Int} (h1 : jm_rga σ t u) (h2 : jm_rga σ t v) : u = v := by
  rcases h1 with ⟨e1, a1⟩ | ⟨a1, ⟨e1, b1⟩ | ⟨b1, c, c1, e1⟩⟩ <;> rcases h2 with ⟨e2, a2⟩ | ⟨a2, ⟨e2, b2⟩ | ⟨b2, d, c2, e2⟩⟩ <;> first | exact e1.trans e2.symm | exact absurd a1 a2 | exact absurd a2 a1 | exact absurd b1 b2 | exact absurd b2 b1 | (have := jm_rgb_uq c1 c2; rw [e1, e2, this])

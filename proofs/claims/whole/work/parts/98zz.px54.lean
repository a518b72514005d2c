/-! ===== shadow of the class ===== -/
theorem jx_mx_P {R : List ge_R} {d : ge_D} {P : List ge_R} {Pf : Int → ge_R} {j : Int} (hPf : ∀ (i : Nat) (x : ge_R), P[i]? = some x → Pf (i : Int) = x) (hbd : ∀ v ∈ P, jx_bd v) (hmem : ∀ v, v ∈ P ↔ ge_V R v ∧ ge_g v = 1) (h : jx_fst d Pf (P.length : Int) j) (hn : 0 < P.length) : jm_mx R d (Pf j) := by
  have hj := jx_fst_in (by omega) h
  have hg := List.getElem?_eq_getElem (l := P) (i := j.toNat) (by omega)
  have e := hPf _ _ hg
  rw [Int.toNat_of_nonneg hj.1] at e
  have hm : Pf j ∈ P := by
    rw [e]
    exact List.getElem_mem _
  refine ⟨((hmem _).mp hm).1, hbd _ hm, fun y hy hh => ?_⟩
  obtain ⟨a1, a2, a3⟩ := ge_pp_ok hy.1.1
  have hz := (hmem (ge_pp y)).mpr ⟨ge_e_V (ge_e_sym a1) hy.1.1 a3 hy, a2⟩
  obtain ⟨c, hc, ec⟩ := List.getElem_of_mem hz
  have e2 := hPf c _ (by rw [List.getElem?_eq_getElem hc, ec])
  rcases h with h | ⟨-, h⟩
  · omega
  have h3 := (h (c : Int) (by omega) (by omega)).1
  unfold jx_wl at *
  rw [e2] at h3
  have ef := ge_e_f a1 d
  have := jx_fl3 (a := ge_f d (Pf j)) (b := ge_f d y) (c := ge_f d (ge_pp y)) (u := (Pf j).2.2.2) (v := y.2.2.2) (w := (ge_pp y).2.2.2) (hbd _ hm).2.2.2.1 hy.1.1 a3 hh (by omega)
  omega
theorem jx_ad_fr {a b u l : Int} (hb : 0 < b) (hl : 0 < l) : jx_ad (jx_fr a b) u l = jx_fr (a * l + u * b) (b * l) := by
  obtain ⟨h, h0, e1, e2⟩ := jx_fr_gl (u := a) hb
  have v0 := jx_fr_pos (u := a) (l := b) (by omega)
  generalize hv : jx_fr a b = v at *
  obtain ⟨v1, v2⟩ := v
  dsimp only at *
  unfold jx_ad
  dsimp only
  have g0 := Int.gcd_pos_of_ne_zero_right v2 (b := l) (by omega)
  obtain ⟨x, ex⟩ := Int.gcd_dvd_left (a := v2) (b := l)
  obtain ⟨y, ey⟩ := Int.gcd_dvd_right (a := v2) (b := l)
  generalize hG : (Int.gcd v2 l : Int) = G at *
  have G0 : 0 < G := by omega
  have d1 : v2 / G = x := by rw [ex, Int.mul_ediv_cancel_left _ (by omega)]
  have d2 : l / G = y := by rw [ey, Int.mul_ediv_cancel_left _ (by omega)]
  have x0 : 0 < x := Int.lt_of_mul_lt_mul_left (a := G) (by rw [Int.mul_zero]; omega) (Int.le_of_lt G0)
  rw [d1, d2]
  refine jx_fr_eq (Int.mul_pos x0 hl) (Int.mul_pos hb hl) ?_
  rw [e1, e2, ex, ey]
  grind

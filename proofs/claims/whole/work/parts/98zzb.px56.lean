/-! ===== shadow has one answer ===== -/
theorem jm_mx_eq {R : List ge_R} {d : ge_D} {x y : ge_R} (hx : jm_mx R d x) (hy : jm_mx R d y) : ge_f d x * y.2.2.2 = ge_f d y * x.2.2.2 := by
  have h1 := hx.2.2 y hy.1
  have h2 := hy.2.2 x hx.1
  unfold jx_wl at h1 h2
  omega
theorem jm_shd_uq {σ : jw_H} (hcb : jm_cbd σ) {e k a b c t u v : Int} (h1 : jm_shd σ e k a b c t u) (h2 : jm_shd σ e k a b c t v) : u = v := by
  rcases h1 with ⟨e1, a1⟩ | ⟨a1, ⟨e1, b1⟩ | ⟨i, x, hi, hx, e1⟩⟩ <;> rcases h2 with ⟨e2, a2⟩ | ⟨a2, ⟨e2, b2⟩ | ⟨j, y, hj, hy, e2⟩⟩
  · exact e1.trans e2.symm
  · exact absurd a2 a1
  · exact absurd a2 a1
  · exact absurd a1 a2
  · exact e1.trans e2.symm
  · exact absurd ⟨y, hy.1⟩ b1
  · exact absurd a1 a2
  · exact absurd ⟨x, hx.1⟩ b2
  · have hn := a1.2.2.2
    have hcn := hcb.1
    have eij := jx_fst_uq hi hj
    subst eij
    have hi1 := jx_fst_in (by omega) hi
    have wi := jm_cw hcb hi1.1 hi1.2
    have wx := hx.1.1.1
    have wy := hy.1.1.1
    have ex := jm_mx_eq hx hy
    rw [e1, e2]
    refine jm_of_eq (Int.mul_pos wx wi) (Int.mul_pos wy wi) ?_ a1.2.2.1
    generalize ge_f (jm_gd3 σ a b c) x = p at *
    generalize ge_f (jm_gd3 σ a b c) y = q at *
    generalize ge_f (jm_gd3 σ a b c) (jm_ct σ i) = s at *
    generalize σ 135 i = w at *
    generalize x.2.2.2 = m at *
    generalize y.2.2.2 = r at *
    grind
theorem jm_shd_me {σ0 σ : jw_H} (h : jx_me σ0 σ) (hP : jm_Pb σ0) (e k a b c t v : Int) : jm_shd σ e k a b c t v ↔ jm_shd σ0 e k a b c t v := by
  have hq := hP.1
  have hk := hP.2.2.1
  have ec : jm_ct σ = jm_ct σ0 := funext fun i => jx_me_ct h i
  have eR : jm_shR σ k = jm_shR σ0 k := by
    unfold jm_shR
    rw [h 103 (by omega), jx_pq_bk (jx_me_pq h) (by omega) (-1) k _ (by omega)]
  unfold jm_shd jm_shc
  rw [jm_gd3_me h, ec, eR, h 103 (by omega), h 135 (by omega)]

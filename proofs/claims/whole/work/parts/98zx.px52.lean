/-! ===== shadow of the reference ===== -/
/-- a corner with most of a sum in a body -/
def jm_mx (R : List ge_R) (d : ge_D) (x : ge_R) : Prop := ge_V R x ∧ jx_bd x ∧ ∀ y, ge_V R y → ¬ jx_wl d x y
def jm_shR (σ : jw_H) (k : Int) : List ge_R := jm_RR (σ 103 3) (jm_bk σ (-1) k (σ 103 5).toNat)
def jm_shc (σ : jw_H) (k a b c t : Int) : Prop := (0 ≤ k ∧ k < σ 103 5) ∧ jm_wok a b c ∧ (t = 0 ∨ t = 1) ∧ σ 103 56 ≠ 0
/-- the answers of shadow; e: what is told where nothing is allowed -/
def jm_shd (σ : jw_H) (e k a b c t v : Int) : Prop := (v = -100000000 ∧ ¬ jm_shc σ k a b c t) ∨ (jm_shc σ k a b c t ∧ ((v = e ∧ ¬ ∃ y, ge_V (jm_shR σ k) y) ∨ ∃ i x, jx_fst (jm_gd3 σ a b c) (jm_ct σ) (σ 103 56) i ∧ jm_mx (jm_shR σ k) (jm_gd3 σ a b c) x ∧ v = jm_of (ge_f (jm_gd3 σ a b c) x * σ 135 i - ge_f (jm_gd3 σ a b c) (jm_ct σ i) * x.2.2.2) (x.2.2.2 * σ 135 i) t))
theorem jm_of_eq {a b c d t : Int} (hb : 0 < b) (hd : 0 < d) (h : a * d = c * b) (ht : t = 0 ∨ t = 1) : jm_of a b t = jm_of c d t := by
  have e := jx_fr_eq hb hd h
  have e1 := jx_fr_of (u := a) hb
  have e2 := jx_fr_of (u := c) hd
  rcases ht with rfl | rfl
  · rw [← e1.1, ← e2.1, e]
  · rw [← e1.2, ← e2.2, e]
/-- the first with most, of the points of a body laid by the reference, as the loop finds it -/
theorem jm_mx_L {σ1 : jw_H} {R : List ge_R} {d : ge_D} {L : List (ge_R × Int)} {j : Int} (hL : jm_is σ1 L) (h1 : ∀ x ∈ L, ge_V R x.1 ∧ ge_g x.1 = 1 ∧ jx_bd x.1) (h2 : ∀ v, ge_V R v → ∃ x ∈ L, ge_e x.1 v) (h : jx_fst d (jm_pt σ1) (σ1 103 46) j) (hn : 0 < σ1 103 46) : jm_mx R d (jm_pt σ1 j) := by
  have hj := jx_fst_in hn h
  obtain ⟨x, hx, ex⟩ := jm_is_at hL hj.1 hj.2
  have hx1 := h1 x hx
  rw [ex]
  refine ⟨hx1.1, hx1.2.2, fun y hy => ?_⟩
  obtain ⟨z, hz, ez⟩ := h2 y hy
  obtain ⟨c, c0, c1, ec⟩ := jm_is_of hL hz
  rcases h with h | ⟨-, h⟩
  · omega
  have h3 := (h c c0 c1).1
  unfold jx_wl at *
  rw [ec, ex] at h3
  have e := ge_e_f ez d
  intro hh
  have wz := (h1 z hz).1.1.1
  have := jx_fl3 (a := ge_f d x.1) (b := ge_f d y) (c := ge_f d z.1) (u := x.1.2.2.2) (v := y.2.2.2) (w := z.1.2.2.2) hx1.1.1.1 hy.1.1 wz hh (by omega)
  omega
theorem jm_shd_loop {n : Nat} {σ : jw_H} {D : Nat} {Q : Option jw_V → jw_H → Prop} (hD : 3 ≤ D) {C : List (ge_R × Int)} (hKN : jm_KN σ C) (hw3 : ∀ k, 0 ≤ k → k < 3 → 0 ≤ σ 142 k ∧ σ 142 k ≤ 9) {r1 r2 r3 r4 r5 : Option jw_V} {i6 : Int} (hn : 0 < σ 103 46 ∧ σ 103 46 ≤ 22) (hbd : ∀ j, 0 ≤ j → j < σ 103 46 → jx_bd (jm_pt σ j)) (hQ : ∀ {b : Int}, jx_fst (jm_gk σ (σ 142) (σ 103 4).toNat) (jm_pt σ) (σ 103 46) b → jw_W (js_S n) D md_308 88 [some (.inr (.inr 103)), r1, r2, r3, r4, r5, some (.inl i6), some (.inl b), some (.inl (σ 103 46))] [] σ Q) : ∀ (f : Nat) {b m : Int}, 1 ≤ m → m + f = σ 103 46 → 0 ≤ b ∧ b < m → jx_fst (jm_gk σ (σ 142) (σ 103 4).toNat) (jm_pt σ) m b → jw_W (js_S n) D md_308 40 [some (.inr (.inr 103)), r1, r2, r3, r4, r5, some (.inl i6), some (.inl b), some (.inl m)] [] σ Q
  | f, b, m, m0, hk, hb, H => by
    have ih : ∀ {b' : Int}, m < σ 103 46 → 0 ≤ b' ∧ b' < m + 1 → jx_fst (jm_gk σ (σ 142) (σ 103 4).toNat) (jm_pt σ) (m + 1) b' → jw_W (js_S n) D md_308 40 [some (.inr (.inr 103)), r1, r2, r3, r4, r5, some (.inl i6), some (.inl b'), some (.inl (m + 1))] [] σ Q := by
      intro b' h1 h2 h3
      match f, hk with
      | 0, hk => omega
      | f + 1, hk => exact jm_shd_loop hD hKN hw3 hn hbd hQ f (by omega) (by omega) h2 h3
    have hcb := (jm_kw_cbd hKN.1).2 σ (jm_fk_rf σ)
    have hcn := hcb.1
    have hPm := hKN.1.1
    have hqq := hPm.1
    have hww := hPm.2.1
    have hkk := hPm.2.2.1
    have hg57 := hKN.2.2.1.1
    have hg58 := hKN.2.2.2.1.1
    have hGb := jm_gk_Gb hPm (w := σ 142) (fun k k0 k1 => hw3 k k0 (by omega))
    refine jw_W_n 2 (i' := 42) (ls' := [some (.inr (.inr 103)), r1, r2, r3, r4, r5, some (.inl i6), some (.inl b), some (.inl m)]) (st' := [.inr (.inr 103), .inl m]) rfl ?_
    refine jw_W_gf rfl rfl rfl ?_
    show jw_W (js_S n) _ md_308 43 [some (.inr (.inr 103)), r1, r2, r3, r4, r5, some (.inl i6), some (.inl b), some (.inl m)] [.inl (σ 103 46), .inl m] σ _
    refine jw_W_ic rfl (by unfold jw_rg; omega) (by unfold jw_rg; omega) (fun hc1 => ?_) (fun hc1 => ?_)
    · have hc1 : m ≥ (σ 103 46) := hc1
      have hkl : m = σ 103 46 := by omega
      subst hkl
      exact hQ H
    · have hc1 : ¬ (m ≥ (σ 103 46)) := hc1
      refine jw_W_n 2 (i' := 46) (ls' := [some (.inr (.inr 103)), r1, r2, r3, r4, r5, some (.inl i6), some (.inl b), some (.inl m)]) (st' := [.inr (.inr 103), .inr (.inr 103)]) rfl ?_
      refine jw_W_gf rfl rfl rfl ?_
      show jw_W (js_S n) _ md_308 47 [some (.inr (.inr 103)), r1, r2, r3, r4, r5, some (.inl i6), some (.inl b), some (.inl m)] [.inr (.inr 125), .inr (.inr 103)] σ _
      refine jw_W_n 1 (i' := 48) (ls' := [some (.inr (.inr 103)), r1, r2, r3, r4, r5, some (.inl i6), some (.inl b), some (.inl m)]) (st' := [.inl m, .inr (.inr 125), .inr (.inr 103)]) rfl ?_
      refine jw_W_la rfl rfl (by omega) (by omega) (by omega) ?_
      show jw_W (js_S n) _ md_308 49 [some (.inr (.inr 103)), r1, r2, r3, r4, r5, some (.inl i6), some (.inl b), some (.inl m)] [.inr (.inl (σ 125 m)), .inr (.inr 103)] σ _
      refine jw_W_n 1 (i' := 50) (ls' := [some (.inr (.inr 103)), r1, r2, r3, r4, r5, some (.inl i6), some (.inl b), some (.inl m)]) (st' := [.inr (.inr 103), .inr (.inl (σ 125 m)), .inr (.inr 103)]) rfl ?_
      refine jw_W_gf rfl rfl rfl ?_
      show jw_W (js_S n) _ md_308 51 [some (.inr (.inr 103)), r1, r2, r3, r4, r5, some (.inl i6), some (.inl b), some (.inl m)] [.inr (.inr 126), .inr (.inl (σ 125 m)), .inr (.inr 103)] σ _
      refine jw_W_n 1 (i' := 52) (ls' := [some (.inr (.inr 103)), r1, r2, r3, r4, r5, some (.inl i6), some (.inl b), some (.inl m)]) (st' := [.inl m, .inr (.inr 126), .inr (.inl (σ 125 m)), .inr (.inr 103)]) rfl ?_
      refine jw_W_la rfl rfl (by omega) (by omega) (by omega) ?_
      show jw_W (js_S n) _ md_308 53 [some (.inr (.inr 103)), r1, r2, r3, r4, r5, some (.inl i6), some (.inl b), some (.inl m)] [.inr (.inl (σ 126 m)), .inr (.inl (σ 125 m)), .inr (.inr 103)] σ _
      refine jw_W_n 1 (i' := 54) (ls' := [some (.inr (.inr 103)), r1, r2, r3, r4, r5, some (.inl i6), some (.inl b), some (.inl m)]) (st' := [.inr (.inr 103), .inr (.inl (σ 126 m)), .inr (.inl (σ 125 m)), .inr (.inr 103)]) rfl ?_
      refine jw_W_gf rfl rfl rfl ?_
      show jw_W (js_S n) _ md_308 55 [some (.inr (.inr 103)), r1, r2, r3, r4, r5, some (.inl i6), some (.inl b), some (.inl m)] [.inr (.inr 127), .inr (.inl (σ 126 m)), .inr (.inl (σ 125 m)), .inr (.inr 103)] σ _
      refine jw_W_n 1 (i' := 56) (ls' := [some (.inr (.inr 103)), r1, r2, r3, r4, r5, some (.inl i6), some (.inl b), some (.inl m)]) (st' := [.inl m, .inr (.inr 127), .inr (.inl (σ 126 m)), .inr (.inl (σ 125 m)), .inr (.inr 103)]) rfl ?_
      refine jw_W_la rfl rfl (by omega) (by omega) (by omega) ?_
      show jw_W (js_S n) _ md_308 57 [some (.inr (.inr 103)), r1, r2, r3, r4, r5, some (.inl i6), some (.inl b), some (.inl m)] [.inr (.inl (σ 127 m)), .inr (.inl (σ 126 m)), .inr (.inl (σ 125 m)), .inr (.inr 103)] σ _
      refine jw_W_call (as := [.inr (.inr 103), .inr (.inl (σ 125 m)), .inr (.inl (σ 126 m)), .inr (.inl (σ 127 m))]) (rest := []) rfl rfl rfl rfl (Nat.le_of_ble_eq_true rfl) (.inr rfl) (jm_weighed hKN hw3) (by omega) ?_ rfl
      rintro r1 σz ⟨rfl, hs⟩
      rw [hs]
      show jw_W (js_S n) _ md_308 58 [some (.inr (.inr 103)), r1, r2, r3, r4, r5, some (.inl i6), some (.inl b), some (.inl m)] [.inr (.inl (ge_f (jm_gk σ (σ 142) (σ 103 4).toNat) (jm_pt σ m)))] σ _
      refine jw_W_n 1 (i' := 59) (ls' := [some (.inr (.inr 103)), r1, r2, r3, r4, r5, some (.inl i6), some (.inl b), some (.inl m)]) (st' := [.inr (.inr 103), .inr (.inl (ge_f (jm_gk σ (σ 142) (σ 103 4).toNat) (jm_pt σ m)))]) rfl ?_
      refine jw_W_gf rfl rfl rfl ?_
      show jw_W (js_S n) _ md_308 60 [some (.inr (.inr 103)), r1, r2, r3, r4, r5, some (.inl i6), some (.inl b), some (.inl m)] [.inr (.inr 128), .inr (.inl (ge_f (jm_gk σ (σ 142) (σ 103 4).toNat) (jm_pt σ m)))] σ _
      refine jw_W_n 1 (i' := 61) (ls' := [some (.inr (.inr 103)), r1, r2, r3, r4, r5, some (.inl i6), some (.inl b), some (.inl m)]) (st' := [.inl b, .inr (.inr 128), .inr (.inl (ge_f (jm_gk σ (σ 142) (σ 103 4).toNat) (jm_pt σ m)))]) rfl ?_
      refine jw_W_la rfl rfl (by omega) (by omega) (by omega) ?_
      show jw_W (js_S n) _ md_308 62 [some (.inr (.inr 103)), r1, r2, r3, r4, r5, some (.inl i6), some (.inl b), some (.inl m)] [.inr (.inl (σ 128 b)), .inr (.inl (ge_f (jm_gk σ (σ 142) (σ 103 4).toNat) (jm_pt σ m)))] σ _
      refine jw_W_n 3 (i' := 65) (ls' := [some (.inr (.inr 103)), r1, r2, r3, r4, r5, some (.inl i6), some (.inl b), some (.inl m)]) (st' := [.inr (.inr 103), .inr (.inr 103), .inr (.inl ((ge_f (jm_gk σ (σ 142) (σ 103 4).toNat) (jm_pt σ m)) * (σ 128 b)))]) rfl ?_
      refine jw_W_gf rfl rfl rfl ?_
      show jw_W (js_S n) _ md_308 66 [some (.inr (.inr 103)), r1, r2, r3, r4, r5, some (.inl i6), some (.inl b), some (.inl m)] [.inr (.inr 125), .inr (.inr 103), .inr (.inl ((ge_f (jm_gk σ (σ 142) (σ 103 4).toNat) (jm_pt σ m)) * (σ 128 b)))] σ _
      refine jw_W_n 1 (i' := 67) (ls' := [some (.inr (.inr 103)), r1, r2, r3, r4, r5, some (.inl i6), some (.inl b), some (.inl m)]) (st' := [.inl b, .inr (.inr 125), .inr (.inr 103), .inr (.inl ((ge_f (jm_gk σ (σ 142) (σ 103 4).toNat) (jm_pt σ m)) * (σ 128 b)))]) rfl ?_
      refine jw_W_la rfl rfl (by omega) (by omega) (by omega) ?_
      show jw_W (js_S n) _ md_308 68 [some (.inr (.inr 103)), r1, r2, r3, r4, r5, some (.inl i6), some (.inl b), some (.inl m)] [.inr (.inl (σ 125 b)), .inr (.inr 103), .inr (.inl ((ge_f (jm_gk σ (σ 142) (σ 103 4).toNat) (jm_pt σ m)) * (σ 128 b)))] σ _
      refine jw_W_n 1 (i' := 69) (ls' := [some (.inr (.inr 103)), r1, r2, r3, r4, r5, some (.inl i6), some (.inl b), some (.inl m)]) (st' := [.inr (.inr 103), .inr (.inl (σ 125 b)), .inr (.inr 103), .inr (.inl ((ge_f (jm_gk σ (σ 142) (σ 103 4).toNat) (jm_pt σ m)) * (σ 128 b)))]) rfl ?_
      refine jw_W_gf rfl rfl rfl ?_
      show jw_W (js_S n) _ md_308 70 [some (.inr (.inr 103)), r1, r2, r3, r4, r5, some (.inl i6), some (.inl b), some (.inl m)] [.inr (.inr 126), .inr (.inl (σ 125 b)), .inr (.inr 103), .inr (.inl ((ge_f (jm_gk σ (σ 142) (σ 103 4).toNat) (jm_pt σ m)) * (σ 128 b)))] σ _
      refine jw_W_n 1 (i' := 71) (ls' := [some (.inr (.inr 103)), r1, r2, r3, r4, r5, some (.inl i6), some (.inl b), some (.inl m)]) (st' := [.inl b, .inr (.inr 126), .inr (.inl (σ 125 b)), .inr (.inr 103), .inr (.inl ((ge_f (jm_gk σ (σ 142) (σ 103 4).toNat) (jm_pt σ m)) * (σ 128 b)))]) rfl ?_
      refine jw_W_la rfl rfl (by omega) (by omega) (by omega) ?_
      show jw_W (js_S n) _ md_308 72 [some (.inr (.inr 103)), r1, r2, r3, r4, r5, some (.inl i6), some (.inl b), some (.inl m)] [.inr (.inl (σ 126 b)), .inr (.inl (σ 125 b)), .inr (.inr 103), .inr (.inl ((ge_f (jm_gk σ (σ 142) (σ 103 4).toNat) (jm_pt σ m)) * (σ 128 b)))] σ _
      refine jw_W_n 1 (i' := 73) (ls' := [some (.inr (.inr 103)), r1, r2, r3, r4, r5, some (.inl i6), some (.inl b), some (.inl m)]) (st' := [.inr (.inr 103), .inr (.inl (σ 126 b)), .inr (.inl (σ 125 b)), .inr (.inr 103), .inr (.inl ((ge_f (jm_gk σ (σ 142) (σ 103 4).toNat) (jm_pt σ m)) * (σ 128 b)))]) rfl ?_
      refine jw_W_gf rfl rfl rfl ?_
      show jw_W (js_S n) _ md_308 74 [some (.inr (.inr 103)), r1, r2, r3, r4, r5, some (.inl i6), some (.inl b), some (.inl m)] [.inr (.inr 127), .inr (.inl (σ 126 b)), .inr (.inl (σ 125 b)), .inr (.inr 103), .inr (.inl ((ge_f (jm_gk σ (σ 142) (σ 103 4).toNat) (jm_pt σ m)) * (σ 128 b)))] σ _
      refine jw_W_n 1 (i' := 75) (ls' := [some (.inr (.inr 103)), r1, r2, r3, r4, r5, some (.inl i6), some (.inl b), some (.inl m)]) (st' := [.inl b, .inr (.inr 127), .inr (.inl (σ 126 b)), .inr (.inl (σ 125 b)), .inr (.inr 103), .inr (.inl ((ge_f (jm_gk σ (σ 142) (σ 103 4).toNat) (jm_pt σ m)) * (σ 128 b)))]) rfl ?_
      refine jw_W_la rfl rfl (by omega) (by omega) (by omega) ?_
      show jw_W (js_S n) _ md_308 76 [some (.inr (.inr 103)), r1, r2, r3, r4, r5, some (.inl i6), some (.inl b), some (.inl m)] [.inr (.inl (σ 127 b)), .inr (.inl (σ 126 b)), .inr (.inl (σ 125 b)), .inr (.inr 103), .inr (.inl ((ge_f (jm_gk σ (σ 142) (σ 103 4).toNat) (jm_pt σ m)) * (σ 128 b)))] σ _
      refine jw_W_call (as := [.inr (.inr 103), .inr (.inl (σ 125 b)), .inr (.inl (σ 126 b)), .inr (.inl (σ 127 b))]) (rest := [.inr (.inl ((ge_f (jm_gk σ (σ 142) (σ 103 4).toNat) (jm_pt σ m)) * (σ 128 b)))]) rfl rfl rfl rfl (Nat.le_of_ble_eq_true rfl) (.inr rfl) (jm_weighed hKN hw3) (by omega) ?_ rfl
      rintro r1 σz ⟨rfl, hs⟩
      rw [hs]
      show jw_W (js_S n) _ md_308 77 [some (.inr (.inr 103)), r1, r2, r3, r4, r5, some (.inl i6), some (.inl b), some (.inl m)] [.inr (.inl (ge_f (jm_gk σ (σ 142) (σ 103 4).toNat) (jm_pt σ b))), .inr (.inl ((ge_f (jm_gk σ (σ 142) (σ 103 4).toNat) (jm_pt σ m)) * (σ 128 b)))] σ _
      refine jw_W_n 1 (i' := 78) (ls' := [some (.inr (.inr 103)), r1, r2, r3, r4, r5, some (.inl i6), some (.inl b), some (.inl m)]) (st' := [.inr (.inr 103), .inr (.inl (ge_f (jm_gk σ (σ 142) (σ 103 4).toNat) (jm_pt σ b))), .inr (.inl ((ge_f (jm_gk σ (σ 142) (σ 103 4).toNat) (jm_pt σ m)) * (σ 128 b)))]) rfl ?_
      refine jw_W_gf rfl rfl rfl ?_
      show jw_W (js_S n) _ md_308 79 [some (.inr (.inr 103)), r1, r2, r3, r4, r5, some (.inl i6), some (.inl b), some (.inl m)] [.inr (.inr 128), .inr (.inl (ge_f (jm_gk σ (σ 142) (σ 103 4).toNat) (jm_pt σ b))), .inr (.inl ((ge_f (jm_gk σ (σ 142) (σ 103 4).toNat) (jm_pt σ m)) * (σ 128 b)))] σ _
      refine jw_W_n 1 (i' := 80) (ls' := [some (.inr (.inr 103)), r1, r2, r3, r4, r5, some (.inl i6), some (.inl b), some (.inl m)]) (st' := [.inl m, .inr (.inr 128), .inr (.inl (ge_f (jm_gk σ (σ 142) (σ 103 4).toNat) (jm_pt σ b))), .inr (.inl ((ge_f (jm_gk σ (σ 142) (σ 103 4).toNat) (jm_pt σ m)) * (σ 128 b)))]) rfl ?_
      refine jw_W_la rfl rfl (by omega) (by omega) (by omega) ?_
      show jw_W (js_S n) _ md_308 81 [some (.inr (.inr 103)), r1, r2, r3, r4, r5, some (.inl i6), some (.inl b), some (.inl m)] [.inr (.inl (σ 128 m)), .inr (.inl (ge_f (jm_gk σ (σ 142) (σ 103 4).toNat) (jm_pt σ b))), .inr (.inl ((ge_f (jm_gk σ (σ 142) (σ 103 4).toNat) (jm_pt σ m)) * (σ 128 b)))] σ _
      refine jw_W_n 1 (i' := 82) (ls' := [some (.inr (.inr 103)), r1, r2, r3, r4, r5, some (.inl i6), some (.inl b), some (.inl m)]) (st' := [.inr (.inl ((ge_f (jm_gk σ (σ 142) (σ 103 4).toNat) (jm_pt σ b)) * (σ 128 m))), .inr (.inl ((ge_f (jm_gk σ (σ 142) (σ 103 4).toNat) (jm_pt σ m)) * (σ 128 b)))]) rfl ?_
      have f1 := jx_f_bd hGb (hbd m (by omega) (by omega))
      have f2 := jx_f_bd hGb (hbd b hb.1 (by omega))
      have c1 : 0 < σ 128 m ∧ σ 128 m ≤ 162 := (hbd m (by omega) (by omega)).2.2.2
      have c2 : 0 < σ 128 b ∧ σ 128 b ≤ 162 := (hbd b hb.1 (by omega)).2.2.2
      have m1 := jx_mulb (x := ge_f (jm_gk σ (σ 142) (σ 103 4).toNat) (jm_pt σ m)) (y := σ 128 b) (A := 9000000) (B := 9000000) (by omega) (by omega) (by omega)
      have m2 := jx_mulb (x := ge_f (jm_gk σ (σ 142) (σ 103 4).toNat) (jm_pt σ b)) (y := σ 128 m) (A := 9000000) (B := 9000000) (by omega) (by omega) (by omega)
      refine jw_W_lc rfl rfl (by unfold jw_rgl; omega) (by unfold jw_rgl; omega) (fun hc2 => ?_) (fun hc2 => ?_)
      · have hc2 : ((ge_f (jm_gk σ (σ 142) (σ 103 4).toNat) (jm_pt σ m)) * (σ 128 b)) ≤ ((ge_f (jm_gk σ (σ 142) (σ 103 4).toNat) (jm_pt σ b)) * (σ 128 m)) := hc2
        refine jw_W_n 2 (i' := 40) (ls' := [some (.inr (.inr 103)), r1, r2, r3, r4, r5, some (.inl i6), some (.inl b), some (.inl (m + 1))]) (st' := []) rfl ?_
        exact ih (by omega) (by omega) (jx_fst_no (by omega) H (by unfold jx_wl; show ¬ (ge_f (jm_gk σ (σ 142) (σ 103 4).toNat) (jm_pt σ b) * σ 128 m < ge_f (jm_gk σ (σ 142) (σ 103 4).toNat) (jm_pt σ m) * σ 128 b); omega))
      · have hc2 : ¬ (((ge_f (jm_gk σ (σ 142) (σ 103 4).toNat) (jm_pt σ m)) * (σ 128 b)) ≤ ((ge_f (jm_gk σ (σ 142) (σ 103 4).toNat) (jm_pt σ b)) * (σ 128 m))) := hc2
        refine jw_W_n 4 (i' := 40) (ls' := [some (.inr (.inr 103)), r1, r2, r3, r4, r5, some (.inl i6), some (.inl m), some (.inl (m + 1))]) (st' := []) rfl ?_
        exact ih (by omega) (by omega) (jx_fst_yes (fun i i0 i1 => (hbd i i0 (by omega)).2.2.2.1) (by omega) H (by unfold jx_wl; show ge_f (jm_gk σ (σ 142) (σ 103 4).toNat) (jm_pt σ b) * σ 128 m < ge_f (jm_gk σ (σ 142) (σ 103 4).toNat) (jm_pt σ m) * σ 128 b; omega))

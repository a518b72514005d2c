/-! ===== heldAt: class and reference ===== -/
/-- what is allowed with a wish at least so much -/
def jn_hR (σ : jw_H) (v k : Int) : List ge_R := jx_wr σ v k :: jm_R σ
def jn_hc (σ : jw_H) (w v k t : Int) : Prop := ((0 ≤ w ∧ w < σ 103 4) ∧ (0 ≤ v ∧ v < σ 103 4) ∧ w ≠ v) ∧ (-999 ≤ k ∧ k ≤ 999) ∧ (t = 0 ∨ t = 1)
/-- the answer of heldAt -/
def jn_hl (σ : jw_H) (w v k t r : Int) : Prop := (r = -100000000 ∧ ¬ jn_hc σ w v k t) ∨ (jn_hc σ w v k t ∧ ((r = -99999999 ∧ ¬ ∃ y, ge_V (jn_hR σ v k) y) ∨ ∃ x, jm_mx (jn_hR σ v k) (jm_W σ w) x ∧ r = jm_of (ge_f (jm_W σ w) x) x.2.2.2 t))
theorem jn_mx_eq {R : List ge_R} {d : ge_D} {x y : ge_R} (hx : jm_mx R d x) (hy : jm_mx R d y) : ge_f d x * y.2.2.2 = ge_f d y * x.2.2.2 := by
  have h1 := hx.2.2 y hy.1
  have h2 := hy.2.2 x hx.1
  unfold jx_wl at h1 h2
  omega
theorem jn_hl_uq {σ : jw_H} {w v k t a b : Int} (h1 : jn_hl σ w v k t a) (h2 : jn_hl σ w v k t b) : a = b := by
  rcases h1 with ⟨e1, a1⟩ | ⟨a1, ⟨e1, b1⟩ | ⟨x, hx, e1⟩⟩ <;> rcases h2 with ⟨e2, a2⟩ | ⟨a2, ⟨e2, b2⟩ | ⟨y, hy, e2⟩⟩
  · exact e1.trans e2.symm
  · exact absurd a2 a1
  · exact absurd a2 a1
  · exact absurd a1 a2
  · exact e1.trans e2.symm
  · exact absurd ⟨y, hy.1⟩ b1
  · exact absurd a1 a2
  · exact absurd ⟨x, hx.1⟩ b2
  · rw [e1, e2]
    exact jm_of_eq hx.1.1.1 hy.1.1.1 (jn_mx_eq hx hy) a1.2.2
theorem jn_hl_me {σ0 σ : jw_H} (h : jx_me σ0 σ) (hP : jm_Pb σ0) (w v k t r : Int) : jn_hl σ w v k t r ↔ jn_hl σ0 w v k t r := by
  have eW : ∀ c, jm_W σ c = jm_W σ0 c := fun c => by
    unfold jm_W
    rw [h 104 (by omega)]
  unfold jn_hl jn_hc jn_hR jx_wr
  rw [jx_me_R h hP, h 103 (by omega)]
  simp only [eW]
theorem jn_wr_rb {σ : jw_H} {v k : Int} (hP : jm_Pb σ) (v0 : 0 ≤ v) (v1 : v < σ 103 4) (k0 : -999 ≤ k ∧ k ≤ 999) : ((σ 103 3 ≤ 2 → (jx_wr σ v k).2.2.1 = 0) ∧ (σ 103 3 ≤ 1 → (jx_wr σ v k).2.1 = 0)) ∧ jx_rb (jx_wr σ v k) := by
  have h1 := (hP.2.2.2.2.2 v v0 v1 2 (by omega) (by omega)).2.2
  have h2 := (hP.2.2.2.2.2 v v0 v1 1 (by omega) (by omega)).2.2
  refine ⟨⟨fun h => ?_, fun h => ?_⟩, jx_wr_sm hP v0 v1, ?_⟩
  · simp only [jx_wr, jm_W]
    rw [h1 h]
    rfl
  · simp only [jx_wr, jm_W]
    rw [h2 h]
    rfl
  · simp only [jx_wr]
    omega
theorem jn_hV_bd {σ : jw_H} {v k : Int} {x : ge_R} (hP : jm_Pb σ) (v0 : 0 ≤ v) (v1 : v < σ 103 4) (k0 : -999 ≤ k ∧ k ≤ 999) (hx : ge_V (jn_hR σ v k) x) (hg : ge_g x = 1) : jx_bd x := by
  have hk := hP.2.2.1
  exact (jx_fV_bd hP (wo := -1) (ra := -1) (by omega) (by omega) (E := [jx_wr σ v k]) (fun r hr => by
    rw [List.mem_singleton] at hr
    rw [hr]
    exact jx_wr_sm hP v0 v1) hx hg).2
theorem jn_bT1 (β : List (Nat × ge_R)) : jm_bT 1 β = β := by
  unfold jm_bT
  conv => rhs; rw [← List.map_id β]
  refine List.map_congr_left (fun z _ => ?_)
  unfold ge_sr
  simp only [Int.one_mul, id]
theorem jn_cutsH {n : Nat} {σ0 σ : jw_H} {C : List (ge_R × Int)} {v k : Int} (hP : jm_Pb σ0) (fr : jm_fr2 σ0 σ) (hL : jm_body σ (jm_bA σ0) C) (v0 : 0 ≤ v) (v1 : v < σ0 103 4) (k0 : -999 ≤ k ∧ k ≤ 999) : jw_T (js_S n) 4 240 [.inr (.inr 103), .inl 15, .inr (.inl (-k))] (jm_ln σ 15 (-σ 104 (3 * v)) (-σ 104 (3 * v + 1)) (-σ 104 (3 * v + 2))) (fun r σ2 => r = none ∧ (jm_fr2 σ0 σ2 ∧ jm_Ns σ2) ∧ ∃ L, jm_is σ2 L ∧ L.length ≤ 22 ∧ (∀ x ∈ L, ge_V (jn_hR σ0 v k) x.1 ∧ ge_g x.1 = 1 ∧ jx_bd x.1) ∧ ∀ x, ge_V (jn_hR σ0 v k) x → ∃ y ∈ L, ge_e y.1 x) := by
  have hPs := jm_fr2_Pb fr hP
  have hw4 := hP.2.1
  have hq := hP.1
  have hk5 := hP.2.2.1
  have e3 := fr.2 3 (by omega)
  have e4 := fr.2 4 (by omega)
  have sm := jm_W_sm hPs v0 (by rw [e4]; exact v1)
  simp only [jm_W] at sm
  have fr1 := jm_fr2_ln σ 15 (-σ 104 (3 * v)) (-σ 104 (3 * v + 1)) (-σ 104 (3 * v + 2))
  have hf : ∀ r, ((15 : Int).toNat, r) ∉ jm_bA σ0 := fun r hr => by
    have := jm_bA_lt hP hr
    omega
  have hH := jm_body_ln (a := -σ 104 (3 * v)) (b := -σ 104 (3 * v + 1)) (c := -σ 104 (3 * v + 2)) hL (show (0 : Int) ≤ 15 by omega) hf (by omega) (by omega) (by omega)
  have erw : jm_rw (jm_ln σ 15 (-σ 104 (3 * v)) (-σ 104 (3 * v + 1)) (-σ 104 (3 * v + 2))) 15 (-k) = jx_wr σ0 v k := by
    have e := jm_ln_N σ 15 (-σ 104 (3 * v)) (-σ 104 (3 * v + 1)) (-σ 104 (3 * v + 2)) 15
    rw [if_pos rfl] at e
    simp only [jm_N, Prod.mk.injEq] at e
    unfold jx_wr
    rw [← jm_W_fr fr]
    simp only [jm_rw, jm_W, e.1, e.2.1, e.2.2]
  have f3 : jm_ln σ 15 (-σ 104 (3 * v)) (-σ 104 (3 * v + 1)) (-σ 104 (3 * v + 2)) 103 3 = σ0 103 3 := (fr1.2 3 (by omega)).trans e3
  have fr2 := jm_fr2_tr fr fr1
  generalize jm_ln σ 15 (-σ 104 (3 * v)) (-σ 104 (3 * v + 1)) (-σ 104 (3 * v + 2)) = σ1 at *
  have hlen := jm_bk_len (σ := σ0) (wo := -1) (mo := -1) hq.1 hq.2 (σ0 103 5).toNat
  have hrb := jn_wr_rb hP v0 v1 k0
  refine jw_T_mono (jm_cut_body (S := 200000) (X := 1458) (b := 15) (u := -k) (by rw [f3]; exact hq.1) (by rw [f3]; exact hq.2) hH (by omega) (by omega) hf (by rw [erw, f3]; exact hrb.1) (by rw [f3]; exact Nat.le_trans hlen (by omega)) (by omega) (by omega) (by omega) (by omega) (fun x hx hg => ?_) (fun x hx hg => ?_)) (Nat.le_refl _) ?_
  · rw [f3] at hx
    obtain ⟨i1, i2, -⟩ := jm_V_bd hP (jm_bk_bnd (wo := -1) (mo := -1) hP (k := (σ0 103 5).toNat) (by omega)) hx hg
    rw [erw]
    have hs := hrb.2.1
    obtain ⟨x1, x2, x3, x4⟩ := i1
    have m1 := jx_mm (A := 3) (X := 1458) ⟨hs.1, hs.2.1⟩ (x := x.1) (by omega)
    have m2 := jx_mm (A := 3) (X := 1458) ⟨hs.2.2.1, hs.2.2.2.1⟩ (x := x.2.1) (by omega)
    have m3 := jx_mm (A := 3) (X := 1458) ⟨hs.2.2.2.2.1, hs.2.2.2.2.2⟩ (x := x.2.2.1) (by omega)
    have m4 := jx_mm (A := 999) (X := 162) hrb.2.2 (x := x.2.2.2) (by omega)
    refine ⟨⟨x1, x2, x3, x4⟩, ?_⟩
    unfold ge_s
    omega
  · rw [erw, f3] at hx
    exact (jx_fV_bd hP (wo := -1) (ra := -1) (by omega) (by omega) (E := [jx_wr σ0 v k]) (fun r hr => by
      rw [List.mem_singleton] at hr
      rw [hr]
      exact jx_wr_sm hP v0 v1) hx hg).1.1
  · rintro r σ2 ⟨rfl, hfr, L', hI, hBd, hB5, hn5, hN5, -, -⟩
    have hfr2 := jm_fr_2 hfr
    have e32 : σ2 103 3 = σ0 103 3 := (hfr2.2 3 (by omega)).trans f3
    rw [erw, e32] at hBd
    refine ⟨rfl, ⟨jm_fr2_tr fr2 hfr2, hN5⟩, L', hI, ?_, fun x hx => ?_, hBd.2.1⟩
    · have h1 := ge_count (R := jn_hR σ0 v k) (Ps := L'.map Prod.fst) (fun q hq => by
        obtain ⟨x, hx, rfl⟩ := List.mem_map.mp hq
        exact (hBd.1 x hx).1) (List.pairwise_map.mpr hBd.2.2)
      rw [List.length_map] at h1
      have : (jn_hR σ0 v k).length ≤ 11 := by
        show (jm_RR (σ0 103 3) (jm_bk σ0 (-1) (-1) (σ0 103 5).toNat)).length + 1 ≤ 11
        omega
      omega
    · obtain ⟨h1, h2, -⟩ := hBd.1 x hx
      exact ⟨h1, h2, jn_hV_bd hP v0 v1 k0 h1 h2⟩
theorem jm_held_loop {n : Nat} {σ : jw_H} {D : Nat} {Q : Option jw_V → jw_H → Prop} (hD : 3 ≤ D) (hP : jm_Pb σ) {w t : Int} (w0 : 0 ≤ w) (w1 : w < σ 103 4) (hGb : jx_Gb (jm_W σ w)) {r2 r3 : Option jw_V} (hn : 0 < σ 103 46 ∧ σ 103 46 ≤ 22) (hbd : ∀ j, 0 ≤ j → j < σ 103 46 → jx_bd (jm_pt σ j)) (hQ : ∀ {b : Int}, jx_fst (jm_W σ w) (jm_pt σ) (σ 103 46) b → jw_W (js_S n) D md_301 97 [some (.inr (.inr 103)), some (.inl w), r2, r3, some (.inl t), some (.inl b), some (.inl (σ 103 46))] [] σ Q) : ∀ (f : Nat) {b m : Int}, 1 ≤ m → m + f = σ 103 46 → 0 ≤ b ∧ b < m → jx_fst (jm_W σ w) (jm_pt σ) m b → jw_W (js_S n) D md_301 69 [some (.inr (.inr 103)), some (.inl w), r2, r3, some (.inl t), some (.inl b), some (.inl m)] [] σ Q
  | f, b, m, m0, hk, hb, H => by
    have ih : ∀ {b' : Int}, m < σ 103 46 → 0 ≤ b' ∧ b' < m + 1 → jx_fst (jm_W σ w) (jm_pt σ) (m + 1) b' → jw_W (js_S n) D md_301 69 [some (.inr (.inr 103)), some (.inl w), r2, r3, some (.inl t), some (.inl b'), some (.inl (m + 1))] [] σ Q := by
      intro b' h1 h2 h3
      match f, hk with
      | 0, hk => omega
      | f + 1, hk => exact jm_held_loop hD hP w0 w1 hGb hn hbd hQ f (by omega) (by omega) h2 h3
    refine jw_W_n 2 (i' := 71) (ls' := [some (.inr (.inr 103)), some (.inl w), r2, r3, some (.inl t), some (.inl b), some (.inl m)]) (st' := [.inr (.inr 103), .inl m]) rfl ?_
    refine jw_W_gf rfl rfl rfl ?_
    show jw_W (js_S n) _ md_301 72 [some (.inr (.inr 103)), some (.inl w), r2, r3, some (.inl t), some (.inl b), some (.inl m)] [.inl (σ 103 46), .inl m] σ _
    refine jw_W_ic rfl (by unfold jw_rg; omega) (by unfold jw_rg; omega) (fun hc1 => ?_) (fun hc1 => ?_)
    · have hc1 : m ≥ (σ 103 46) := hc1
      have hkl : m = σ 103 46 := by omega
      subst hkl
      exact hQ H
    · have hc1 : ¬ (m ≥ (σ 103 46)) := hc1
      refine jw_W_n 3 (i' := 76) (ls' := [some (.inr (.inr 103)), some (.inl w), r2, r3, some (.inl t), some (.inl b), some (.inl m)]) (st' := [.inl m, .inl w, .inr (.inr 103)]) rfl ?_
      refine jw_W_call (as := [.inr (.inr 103), .inl w, .inl m]) (rest := []) rfl rfl rfl rfl (Nat.le_of_ble_eq_true rfl) (.inr rfl) (jm_wishedAt hP w0 w1 (by omega) (by omega)) (by omega) ?_ rfl
      rintro r1 σz ⟨rfl, hs⟩
      rw [hs]
      show jw_W (js_S n) _ md_301 77 [some (.inr (.inr 103)), some (.inl w), r2, r3, some (.inl t), some (.inl b), some (.inl m)] [.inr (.inl (ge_f (jm_W σ w) (jm_pt σ m)))] σ _
      refine jw_W_n 1 (i' := 78) (ls' := [some (.inr (.inr 103)), some (.inl w), r2, r3, some (.inl t), some (.inl b), some (.inl m)]) (st' := [.inr (.inr 103), .inr (.inl (ge_f (jm_W σ w) (jm_pt σ m)))]) rfl ?_
      refine jw_W_gf rfl rfl rfl ?_
      show jw_W (js_S n) _ md_301 79 [some (.inr (.inr 103)), some (.inl w), r2, r3, some (.inl t), some (.inl b), some (.inl m)] [.inr (.inr 128), .inr (.inl (ge_f (jm_W σ w) (jm_pt σ m)))] σ _
      refine jw_W_n 1 (i' := 80) (ls' := [some (.inr (.inr 103)), some (.inl w), r2, r3, some (.inl t), some (.inl b), some (.inl m)]) (st' := [.inl b, .inr (.inr 128), .inr (.inl (ge_f (jm_W σ w) (jm_pt σ m)))]) rfl ?_
      refine jw_W_la rfl rfl (by omega) (by omega) (by omega) ?_
      show jw_W (js_S n) _ md_301 81 [some (.inr (.inr 103)), some (.inl w), r2, r3, some (.inl t), some (.inl b), some (.inl m)] [.inr (.inl (σ 128 b)), .inr (.inl (ge_f (jm_W σ w) (jm_pt σ m)))] σ _
      refine jw_W_n 4 (i' := 85) (ls' := [some (.inr (.inr 103)), some (.inl w), r2, r3, some (.inl t), some (.inl b), some (.inl m)]) (st' := [.inl b, .inl w, .inr (.inr 103), .inr (.inl ((ge_f (jm_W σ w) (jm_pt σ m)) * (σ 128 b)))]) rfl ?_
      refine jw_W_call (as := [.inr (.inr 103), .inl w, .inl b]) (rest := [.inr (.inl ((ge_f (jm_W σ w) (jm_pt σ m)) * (σ 128 b)))]) rfl rfl rfl rfl (Nat.le_of_ble_eq_true rfl) (.inr rfl) (jm_wishedAt hP w0 w1 (by omega) (by omega)) (by omega) ?_ rfl
      rintro r1 σz ⟨rfl, hs⟩
      rw [hs]
      show jw_W (js_S n) _ md_301 86 [some (.inr (.inr 103)), some (.inl w), r2, r3, some (.inl t), some (.inl b), some (.inl m)] [.inr (.inl (ge_f (jm_W σ w) (jm_pt σ b))), .inr (.inl ((ge_f (jm_W σ w) (jm_pt σ m)) * (σ 128 b)))] σ _
      refine jw_W_n 1 (i' := 87) (ls' := [some (.inr (.inr 103)), some (.inl w), r2, r3, some (.inl t), some (.inl b), some (.inl m)]) (st' := [.inr (.inr 103), .inr (.inl (ge_f (jm_W σ w) (jm_pt σ b))), .inr (.inl ((ge_f (jm_W σ w) (jm_pt σ m)) * (σ 128 b)))]) rfl ?_
      refine jw_W_gf rfl rfl rfl ?_
      show jw_W (js_S n) _ md_301 88 [some (.inr (.inr 103)), some (.inl w), r2, r3, some (.inl t), some (.inl b), some (.inl m)] [.inr (.inr 128), .inr (.inl (ge_f (jm_W σ w) (jm_pt σ b))), .inr (.inl ((ge_f (jm_W σ w) (jm_pt σ m)) * (σ 128 b)))] σ _
      refine jw_W_n 1 (i' := 89) (ls' := [some (.inr (.inr 103)), some (.inl w), r2, r3, some (.inl t), some (.inl b), some (.inl m)]) (st' := [.inl m, .inr (.inr 128), .inr (.inl (ge_f (jm_W σ w) (jm_pt σ b))), .inr (.inl ((ge_f (jm_W σ w) (jm_pt σ m)) * (σ 128 b)))]) rfl ?_
      refine jw_W_la rfl rfl (by omega) (by omega) (by omega) ?_
      show jw_W (js_S n) _ md_301 90 [some (.inr (.inr 103)), some (.inl w), r2, r3, some (.inl t), some (.inl b), some (.inl m)] [.inr (.inl (σ 128 m)), .inr (.inl (ge_f (jm_W σ w) (jm_pt σ b))), .inr (.inl ((ge_f (jm_W σ w) (jm_pt σ m)) * (σ 128 b)))] σ _
      refine jw_W_n 1 (i' := 91) (ls' := [some (.inr (.inr 103)), some (.inl w), r2, r3, some (.inl t), some (.inl b), some (.inl m)]) (st' := [.inr (.inl ((ge_f (jm_W σ w) (jm_pt σ b)) * (σ 128 m))), .inr (.inl ((ge_f (jm_W σ w) (jm_pt σ m)) * (σ 128 b)))]) rfl ?_
      have f1 := jx_f_bd hGb (hbd m (by omega) (by omega))
      have f2 := jx_f_bd hGb (hbd b hb.1 (by omega))
      have c1 : 0 < σ 128 m ∧ σ 128 m ≤ 162 := (hbd m (by omega) (by omega)).2.2.2
      have c2 : 0 < σ 128 b ∧ σ 128 b ≤ 162 := (hbd b hb.1 (by omega)).2.2.2
      have m1 := jx_mulb (x := ge_f (jm_W σ w) (jm_pt σ m)) (y := σ 128 b) (A := 9000000) (B := 9000000) (by omega) (by omega) (by omega)
      have m2 := jx_mulb (x := ge_f (jm_W σ w) (jm_pt σ b)) (y := σ 128 m) (A := 9000000) (B := 9000000) (by omega) (by omega) (by omega)
      refine jw_W_lc rfl rfl (by unfold jw_rgl; omega) (by unfold jw_rgl; omega) (fun hc2 => ?_) (fun hc2 => ?_)
      · have hc2 : ((ge_f (jm_W σ w) (jm_pt σ m)) * (σ 128 b)) ≤ ((ge_f (jm_W σ w) (jm_pt σ b)) * (σ 128 m)) := hc2
        refine jw_W_n 2 (i' := 69) (ls' := [some (.inr (.inr 103)), some (.inl w), r2, r3, some (.inl t), some (.inl b), some (.inl (m + 1))]) (st' := []) rfl ?_
        exact ih (by omega) (by omega) (jx_fst_no (by omega) H (by unfold jx_wl; show ¬ (ge_f (jm_W σ w) (jm_pt σ b) * σ 128 m < ge_f (jm_W σ w) (jm_pt σ m) * σ 128 b); omega))
      · have hc2 : ¬ (((ge_f (jm_W σ w) (jm_pt σ m)) * (σ 128 b)) ≤ ((ge_f (jm_W σ w) (jm_pt σ b)) * (σ 128 m))) := hc2
        refine jw_W_n 4 (i' := 69) (ls' := [some (.inr (.inr 103)), some (.inl w), r2, r3, some (.inl t), some (.inl m), some (.inl (m + 1))]) (st' := []) rfl ?_
        exact ih (by omega) (by omega) (jx_fst_yes (fun i i0 i1 => (hbd i i0 (by omega)).2.2.2.1) (by omega) H (by unfold jx_wl; show ge_f (jm_W σ w) (jm_pt σ b) * σ 128 m < ge_f (jm_W σ w) (jm_pt σ m) * σ 128 b; omega))
theorem jm_heldAt {n : Nat} {σ : jw_H} {C : List (ge_R × Int)} (hKN : jm_KN σ C) {w v k t : Int} (hwr : jw_rg w) (hvr : jw_rg v) (hk : jw_rg k) (ht : jw_rg t) : jw_T (js_S n) 9 301 [.inr (.inr 103), .inl w, .inl v, .inl k, .inl t] σ (fun r σ' => ∃ r', r = some (.inr (.inl r')) ∧ jm_fz σ σ' ∧ jn_hl σ w v k t r') := by
  refine jw_T_of (D := 8) (M := mm_301) rfl (Nat.le_of_ble_eq_true rfl) (ls0 := [some (.inr (.inr 103)), some (.inl w), some (.inl v), some (.inl k), some (.inl t), none, none]) rfl ?_ (by rintro _ _ ⟨_, rfl, -⟩; rfl)
  have hcb := (jm_kw_cbd hKN.1).2 σ (jm_fk_rf σ)
  have hcn := hcb.1
  have hPm := hKN.1.1
  have hqq := hPm.1
  have hww := hPm.2.1
  have hkk := hPm.2.2.1
  have hg57 := hKN.2.2.1.1
  have hg58 := hKN.2.2.2.1.1
  have rhwr := hwr
  unfold jw_rg at rhwr
  have rhvr := hvr
  unfold jw_rg at rhvr
  have rhk := hk
  unfold jw_rg at rhk
  have rht := ht
  unfold jw_rg at rht
  refine jw_W_n 2 (i' := 2) (ls' := [some (.inr (.inr 103)), some (.inl w), some (.inl v), some (.inl k), some (.inl t), none, none]) (st' := [.inl w, .inr (.inr 103)]) rfl ?_
  refine jw_W_call (as := [.inr (.inr 103), .inl w]) (rest := []) rfl rfl rfl rfl (Nat.le_of_ble_eq_true rfl) (.inr rfl) (jm_isWish hPm hwr) (by omega) ?_ rfl
  rintro r1 σz (⟨rfl, hs, q1⟩ | ⟨rfl, hs, q1⟩)
  · rw [hs]
    show jw_W (js_S n) _ md_301 3 [some (.inr (.inr 103)), some (.inl w), some (.inl v), some (.inl k), some (.inl t), none, none] [.inl 1] σ _
    refine jw_W_if rfl (by unfold jw_rg; omega) (fun hc1 => ?_) (fun hc1 => ?_)
    · exact absurd hc1 (show ¬ ((1 : Int) = 0) by omega)
    · clear hc1
      refine jw_W_n 2 (i' := 6) (ls' := [some (.inr (.inr 103)), some (.inl w), some (.inl v), some (.inl k), some (.inl t), none, none]) (st' := [.inl v, .inr (.inr 103)]) rfl ?_
      refine jw_W_call (as := [.inr (.inr 103), .inl v]) (rest := []) rfl rfl rfl rfl (Nat.le_of_ble_eq_true rfl) (.inr rfl) (jm_isWish hPm hvr) (by omega) ?_ rfl
      rintro r1 σz (⟨rfl, hs, q2⟩ | ⟨rfl, hs, q2⟩)
      · rw [hs]
        show jw_W (js_S n) _ md_301 7 [some (.inr (.inr 103)), some (.inl w), some (.inl v), some (.inl k), some (.inl t), none, none] [.inl 1] σ _
        refine jw_W_if rfl (by unfold jw_rg; omega) (fun hc2 => ?_) (fun hc2 => ?_)
        · exact absurd hc2 (show ¬ ((1 : Int) = 0) by omega)
        · clear hc2
          refine jw_W_n 2 (i' := 10) (ls' := [some (.inr (.inr 103)), some (.inl w), some (.inl v), some (.inl k), some (.inl t), none, none]) (st' := [.inl v, .inl w]) rfl ?_
          refine jw_W_ic rfl (by unfold jw_rg; omega) (by unfold jw_rg; omega) (fun hc3 => ?_) (fun hc3 => ?_)
          · have hc3 : w = v := hc3
            refine jw_W_ld2 (z := (-100000000)) rfl rfl ?_
            refine jw_W_lr rfl ?_
            exact ⟨_, rfl, jm_fz_rf hKN, .inl ⟨rfl, fun hh => by obtain ⟨⟨g1, g2, g3⟩, g4, g5⟩ := hh; omega⟩⟩
          · have hc3 : ¬ (w = v) := hc3
            refine jw_W_n 3 (i' := 14) (ls' := [some (.inr (.inr 103)), some (.inl w), some (.inl v), some (.inl k), some (.inl t), none, none]) (st' := [.inl 999, .inl ((-999)), .inl k]) rfl ?_
            refine jw_W_call (as := [.inl k, .inl ((-999)), .inl 999]) (rest := []) rfl rfl rfl rfl (Nat.le_of_ble_eq_true rfl) (.inl rfl) (jm_in (by unfold jw_rg; omega) (by unfold jw_rg; omega) (by unfold jw_rg; omega)) (by omega) ?_ rfl
            rintro r1 σz (⟨rfl, hs, q3⟩ | ⟨rfl, hs, q3⟩)
            · rw [hs]
              show jw_W (js_S n) _ md_301 15 [some (.inr (.inr 103)), some (.inl w), some (.inl v), some (.inl k), some (.inl t), none, none] [.inl 1] σ _
              refine jw_W_if rfl (by unfold jw_rg; omega) (fun hc4 => ?_) (fun hc4 => ?_)
              · exact absurd hc4 (show ¬ ((1 : Int) = 0) by omega)
              · clear hc4
                refine jw_W_n 3 (i' := 19) (ls' := [some (.inr (.inr 103)), some (.inl w), some (.inl v), some (.inl k), some (.inl t), none, none]) (st' := [.inl 1, .inl 0, .inl t]) rfl ?_
                refine jw_W_call (as := [.inl t, .inl 0, .inl 1]) (rest := []) rfl rfl rfl rfl (Nat.le_of_ble_eq_true rfl) (.inl rfl) (jm_in (by unfold jw_rg; omega) (by unfold jw_rg; omega) (by unfold jw_rg; omega)) (by omega) ?_ rfl
                rintro r1 σz (⟨rfl, hs, q4⟩ | ⟨rfl, hs, q4⟩)
                · rw [hs]
                  show jw_W (js_S n) _ md_301 20 [some (.inr (.inr 103)), some (.inl w), some (.inl v), some (.inl k), some (.inl t), none, none] [.inl 1] σ _
                  refine jw_W_if rfl (by unfold jw_rg; omega) (fun hc5 => ?_) (fun hc5 => ?_)
                  · clear hc5
                    refine jw_W_n 2 (i' := 25) (ls' := [some (.inr (.inr 103)), some (.inl w), some (.inl v), some (.inl k), some (.inl t), none, none]) (st' := [.inr (.inl 1), .inr (.inr 103)]) rfl ?_
                    refine jw_W_call (as := [.inr (.inr 103), .inr (.inl 1)]) (rest := []) rfl rfl rfl rfl (Nat.le_of_ble_eq_true rfl) (.inr rfl) (jm_laysCorners (T := 1) (X := 1458) hPm hKN.1.2.2.2.2.1 hKN.1.2.1.1 (by have := jm_kn_len hPm hKN.1.2.1.2.1; omega) (by omega) (fun x hx => (jm_kn_bd hPm hKN.1.2.1 x hx).1) (by omega) (by omega)) (by omega) ?_ rfl
                    rintro r1 σ1 ⟨rfl, σ2, hA1, hA2⟩
                    have hI := jm_lc_body hPm hKN.1.2.1 (by omega) hA1 hA2
                    rw [jn_bT1] at hI
                    have fr1 := hI.1
                    show jw_W (js_S n) _ md_301 26 [some (.inr (.inr 103)), some (.inl w), some (.inl v), some (.inl k), some (.inl t), none, none] [] σ1 _
                    refine jw_W_n 3 (i' := 29) (ls' := [some (.inr (.inr 103)), some (.inl w), some (.inl v), some (.inl k), some (.inl t), none, none]) (st' := [.inr (.inr 103), .inl 15, .inr (.inr 103)]) rfl ?_
                    refine jw_W_gf rfl rfl rfl ?_
                    show jw_W (js_S n) _ md_301 30 [some (.inr (.inr 103)), some (.inl w), some (.inl v), some (.inl k), some (.inl t), none, none] [.inr (.inr 104), .inl 15, .inr (.inr 103)] σ1 _
                    refine jw_W_n 3 (i' := 33) (ls' := [some (.inr (.inr 103)), some (.inl w), some (.inl v), some (.inl k), some (.inl t), none, none]) (st' := [.inl (3 * v), .inr (.inr 104), .inl 15, .inr (.inr 103)]) rfl ?_
                    refine jw_W_ia rfl rfl (by omega) (by omega) (by omega) ?_
                    show jw_W (js_S n) _ md_301 34 [some (.inr (.inr 103)), some (.inl w), some (.inl v), some (.inl k), some (.inl t), none, none] [.inl (σ1 104 (3 * v)), .inl 15, .inr (.inr 103)] σ1 _
                    refine jw_W_n 2 (i' := 36) (ls' := [some (.inr (.inr 103)), some (.inl w), some (.inl v), some (.inl k), some (.inl t), none, none]) (st' := [.inr (.inr 103), .inl ((-(σ1 104 (3 * v)))), .inl 15, .inr (.inr 103)]) rfl ?_
                    refine jw_W_gf rfl rfl rfl ?_
                    show jw_W (js_S n) _ md_301 37 [some (.inr (.inr 103)), some (.inl w), some (.inl v), some (.inl k), some (.inl t), none, none] [.inr (.inr 104), .inl ((-(σ1 104 (3 * v)))), .inl 15, .inr (.inr 103)] σ1 _
                    refine jw_W_n 5 (i' := 42) (ls' := [some (.inr (.inr 103)), some (.inl w), some (.inl v), some (.inl k), some (.inl t), none, none]) (st' := [.inl ((3 * v) + 1), .inr (.inr 104), .inl ((-(σ1 104 (3 * v)))), .inl 15, .inr (.inr 103)]) rfl ?_
                    refine jw_W_ia rfl rfl (by omega) (by omega) (by omega) ?_
                    show jw_W (js_S n) _ md_301 43 [some (.inr (.inr 103)), some (.inl w), some (.inl v), some (.inl k), some (.inl t), none, none] [.inl (σ1 104 ((3 * v) + 1)), .inl ((-(σ1 104 (3 * v)))), .inl 15, .inr (.inr 103)] σ1 _
                    refine jw_W_n 2 (i' := 45) (ls' := [some (.inr (.inr 103)), some (.inl w), some (.inl v), some (.inl k), some (.inl t), none, none]) (st' := [.inr (.inr 103), .inl ((-(σ1 104 ((3 * v) + 1)))), .inl ((-(σ1 104 (3 * v)))), .inl 15, .inr (.inr 103)]) rfl ?_
                    refine jw_W_gf rfl rfl rfl ?_
                    show jw_W (js_S n) _ md_301 46 [some (.inr (.inr 103)), some (.inl w), some (.inl v), some (.inl k), some (.inl t), none, none] [.inr (.inr 104), .inl ((-(σ1 104 ((3 * v) + 1)))), .inl ((-(σ1 104 (3 * v)))), .inl 15, .inr (.inr 103)] σ1 _
                    refine jw_W_n 5 (i' := 51) (ls' := [some (.inr (.inr 103)), some (.inl w), some (.inl v), some (.inl k), some (.inl t), none, none]) (st' := [.inl ((3 * v) + 2), .inr (.inr 104), .inl ((-(σ1 104 ((3 * v) + 1)))), .inl ((-(σ1 104 (3 * v)))), .inl 15, .inr (.inr 103)]) rfl ?_
                    refine jw_W_ia rfl rfl (by omega) (by omega) (by omega) ?_
                    show jw_W (js_S n) _ md_301 52 [some (.inr (.inr 103)), some (.inl w), some (.inl v), some (.inl k), some (.inl t), none, none] [.inl (σ1 104 ((3 * v) + 2)), .inl ((-(σ1 104 ((3 * v) + 1)))), .inl ((-(σ1 104 (3 * v)))), .inl 15, .inr (.inr 103)] σ1 _
                    refine jw_W_n 1 (i' := 53) (ls' := [some (.inr (.inr 103)), some (.inl w), some (.inl v), some (.inl k), some (.inl t), none, none]) (st' := [.inl ((-(σ1 104 ((3 * v) + 2)))), .inl ((-(σ1 104 ((3 * v) + 1)))), .inl ((-(σ1 104 (3 * v)))), .inl 15, .inr (.inr 103)]) rfl ?_
                    refine jw_W_call (as := [.inr (.inr 103), .inl 15, .inl ((-(σ1 104 (3 * v)))), .inl ((-(σ1 104 ((3 * v) + 1)))), .inl ((-(σ1 104 ((3 * v) + 2))))]) (rest := []) rfl rfl rfl rfl (Nat.le_of_ble_eq_true rfl) (.inr rfl) (jm_laysNormal (by omega) (by omega)) (by omega) ?_ rfl
                    rintro r1 σz ⟨rfl, rfl⟩
                    show jw_W (js_S n) _ md_301 54 [some (.inr (.inr 103)), some (.inl w), some (.inl v), some (.inl k), some (.inl t), none, none] [] ((jw_up (jw_up (jw_up σ1 131 (3 * (15)) (-(σ1 104 (3 * v)))) 131 (3 * (15) + 1) (-(σ1 104 ((3 * v) + 1)))) 131 (3 * (15) + 2) (-(σ1 104 ((3 * v) + 2))))) _
                    refine jw_W_n 4 (i' := 58) (ls' := [some (.inr (.inr 103)), some (.inl w), some (.inl v), some (.inl k), some (.inl t), none, none]) (st' := [.inl ((-k)), .inl 15, .inr (.inr 103)]) rfl ?_
                    refine jw_W_i2l rfl (by unfold jw_rg; omega) ?_
                    refine jw_W_call (as := [.inr (.inr 103), .inl 15, .inr (.inl ((-k)))]) (rest := []) rfl rfl rfl rfl (Nat.le_of_ble_eq_true rfl) (.inr rfl) (jn_cutsH hPm fr1 hI.2 (by omega) (by omega) (by omega)) (by omega) ?_ rfl
                    rintro r1 σ3 ⟨rfl, ⟨fr3, hN3⟩, L, hL, hll, hLv, hLe⟩
                    have hP3 := jm_fr2_Pb fr3 hPm
                    have hL46 := hL.1
                    have eW := jm_W_fr fr3 w
                    have e43 := fr3.2 4 (by omega)
                    have hGb : jx_Gb (jm_W σ3 w) := by have := jm_W_sm hPm (k := w) (by omega) (by omega); rw [eW]; unfold jx_Gb; omega
                    have hbd : ∀ j, 0 ≤ j → j < σ3 103 46 → jx_bd (jm_pt σ3 j) := fun j j0 j1 => by obtain ⟨x, hx, ex⟩ := jm_is_at hL j0 j1; rw [ex]; exact (hLv x hx).2.2
                    have hz : jm_fz σ σ3 := ⟨fun o h1 h2 => fr3.1 o (by omega) h2, fun j hj => fr3.2 j (by omega), hN3⟩
                    show jw_W (js_S n) _ md_301 60 [some (.inr (.inr 103)), some (.inl w), some (.inl v), some (.inl k), some (.inl t), none, none] [] σ3 _
                    refine jw_W_n 1 (i' := 61) (ls' := [some (.inr (.inr 103)), some (.inl w), some (.inl v), some (.inl k), some (.inl t), none, none]) (st' := [.inr (.inr 103)]) rfl ?_
                    refine jw_W_gf rfl rfl rfl ?_
                    show jw_W (js_S n) _ md_301 62 [some (.inr (.inr 103)), some (.inl w), some (.inl v), some (.inl k), some (.inl t), none, none] [.inl (σ3 103 46)] σ3 _
                    refine jw_W_if rfl (by unfold jw_rg; omega) (fun hc6 => ?_) (fun hc6 => ?_)
                    · have hc6 : (σ3 103 46) ≠ 0 := hc6
                      refine jw_W_n 4 (i' := 69) (ls' := [some (.inr (.inr 103)), some (.inl w), some (.inl v), some (.inl k), some (.inl t), some (.inl 0), some (.inl 1)]) (st' := []) rfl ?_
                      refine jm_held_loop (D := 8) (by omega) hP3 (by omega) (by omega) hGb (by omega) hbd (fun {j} Hj => ?_) (σ3 103 46 - 1).toNat (b := 0) (m := 1) (by omega) (by omega) (by omega) (jx_fst_1 _ _)
                      rw [eW] at Hj hGb
                      have hmx := jm_mx_L hL hLv hLe Hj (by omega)
                      have hj1 := jx_fst_in (by omega) Hj
                      have f1 := jx_f_bd hGb (hbd j hj1.1 hj1.2)
                      have c1 : 0 < σ3 128 j ∧ σ3 128 j ≤ 162 := (hbd j hj1.1 hj1.2).2.2.2
                      refine jw_W_n 3 (i' := 100) (ls' := [some (.inr (.inr 103)), some (.inl w), some (.inl v), some (.inl k), some (.inl t), some (.inl j), some (.inl (σ3 103 46))]) (st' := [.inl j, .inl w, .inr (.inr 103)]) rfl ?_
                      refine jw_W_call (as := [.inr (.inr 103), .inl w, .inl j]) (rest := []) rfl rfl rfl rfl (Nat.le_of_ble_eq_true rfl) (.inr rfl) (jm_wishedAt hP3 (by omega) (by omega) (by omega) (by omega)) (by omega) ?_ rfl
                      rintro r1 σz ⟨rfl, hs⟩
                      rw [hs, eW]
                      show jw_W (js_S n) _ md_301 101 [some (.inr (.inr 103)), some (.inl w), some (.inl v), some (.inl k), some (.inl t), some (.inl j), some (.inl (σ3 103 46))] [.inr (.inl (ge_f (jm_W σ w) (jm_pt σ3 j)))] σ3 _
                      refine jw_W_n 1 (i' := 102) (ls' := [some (.inr (.inr 103)), some (.inl w), some (.inl v), some (.inl k), some (.inl t), some (.inl j), some (.inl (σ3 103 46))]) (st' := [.inr (.inr 103), .inr (.inl (ge_f (jm_W σ w) (jm_pt σ3 j)))]) rfl ?_
                      refine jw_W_gf rfl rfl rfl ?_
                      show jw_W (js_S n) _ md_301 103 [some (.inr (.inr 103)), some (.inl w), some (.inl v), some (.inl k), some (.inl t), some (.inl j), some (.inl (σ3 103 46))] [.inr (.inr 128), .inr (.inl (ge_f (jm_W σ w) (jm_pt σ3 j)))] σ3 _
                      refine jw_W_n 1 (i' := 104) (ls' := [some (.inr (.inr 103)), some (.inl w), some (.inl v), some (.inl k), some (.inl t), some (.inl j), some (.inl (σ3 103 46))]) (st' := [.inl j, .inr (.inr 128), .inr (.inl (ge_f (jm_W σ w) (jm_pt σ3 j)))]) rfl ?_
                      refine jw_W_la rfl rfl (by omega) (by omega) (by omega) ?_
                      show jw_W (js_S n) _ md_301 105 [some (.inr (.inr 103)), some (.inl w), some (.inl v), some (.inl k), some (.inl t), some (.inl j), some (.inl (σ3 103 46))] [.inr (.inl (σ3 128 j)), .inr (.inl (ge_f (jm_W σ w) (jm_pt σ3 j)))] σ3 _
                      refine jw_W_n 1 (i' := 106) (ls' := [some (.inr (.inr 103)), some (.inl w), some (.inl v), some (.inl k), some (.inl t), some (.inl j), some (.inl (σ3 103 46))]) (st' := [.inl t, .inr (.inl (σ3 128 j)), .inr (.inl (ge_f (jm_W σ w) (jm_pt σ3 j)))]) rfl ?_
                      refine jw_W_call (as := [.inr (.inl (ge_f (jm_W σ w) (jm_pt σ3 j))), .inr (.inl (σ3 128 j)), .inl t]) (rest := []) rfl rfl rfl rfl (Nat.le_of_ble_eq_true rfl) (.inl rfl) (jm_ofFr (by unfold jm_bg; omega) (by omega) (by omega) (by unfold jw_rg; omega)) (by omega) ?_ rfl
                      rintro r1 σz ⟨rfl, hs⟩
                      rw [hs]
                      show jw_W (js_S n) _ md_301 107 [some (.inr (.inr 103)), some (.inl w), some (.inl v), some (.inl k), some (.inl t), some (.inl j), some (.inl (σ3 103 46))] [.inr (.inl (jm_of (ge_f (jm_W σ w) (jm_pt σ3 j)) (σ3 128 j) t))] σ3 _
                      refine jw_W_lr rfl ?_
                      exact ⟨_, rfl, hz, .inr ⟨⟨⟨by omega, by omega, by omega⟩, by omega, by omega⟩, .inr ⟨_, hmx, rfl⟩⟩⟩
                    · have hc6 : (σ3 103 46) = 0 := Classical.not_not.mp hc6
                      refine jw_W_ld2 (z := (-99999999)) rfl rfl ?_
                      refine jw_W_lr rfl ?_
                      exact ⟨_, rfl, hz, .inr ⟨⟨⟨by omega, by omega, by omega⟩, by omega, by omega⟩, .inl ⟨rfl, fun ⟨y, hy⟩ => by obtain ⟨x, hx, -⟩ := hLe y hy; have := List.length_pos_of_mem hx; omega⟩⟩⟩
                  · exact absurd hc5 (show ¬ ¬ ((1 : Int) ≠ 0) by omega)
                · rw [hs]
                  show jw_W (js_S n) _ md_301 20 [some (.inr (.inr 103)), some (.inl w), some (.inl v), some (.inl k), some (.inl t), none, none] [.inl 0] σ _
                  refine jw_W_if rfl (by unfold jw_rg; omega) (fun hc7 => ?_) (fun hc7 => ?_)
                  · exact absurd hc7 (show ¬ ((0 : Int) ≠ 0) by omega)
                  · clear hc7
                    refine jw_W_ld2 (z := (-100000000)) rfl rfl ?_
                    refine jw_W_lr rfl ?_
                    exact ⟨_, rfl, jm_fz_rf hKN, .inl ⟨rfl, fun hh => by obtain ⟨⟨g1, g2, g3⟩, g4, g5⟩ := hh; omega⟩⟩
            · rw [hs]
              show jw_W (js_S n) _ md_301 15 [some (.inr (.inr 103)), some (.inl w), some (.inl v), some (.inl k), some (.inl t), none, none] [.inl 0] σ _
              refine jw_W_if rfl (by unfold jw_rg; omega) (fun hc8 => ?_) (fun hc8 => ?_)
              · clear hc8
                refine jw_W_ld2 (z := (-100000000)) rfl rfl ?_
                refine jw_W_lr rfl ?_
                exact ⟨_, rfl, jm_fz_rf hKN, .inl ⟨rfl, fun hh => by obtain ⟨⟨g1, g2, g3⟩, g4, g5⟩ := hh; omega⟩⟩
              · exact absurd hc8 (show ¬ ¬ ((0 : Int) = 0) by omega)
      · rw [hs]
        show jw_W (js_S n) _ md_301 7 [some (.inr (.inr 103)), some (.inl w), some (.inl v), some (.inl k), some (.inl t), none, none] [.inl 0] σ _
        refine jw_W_if rfl (by unfold jw_rg; omega) (fun hc9 => ?_) (fun hc9 => ?_)
        · clear hc9
          refine jw_W_ld2 (z := (-100000000)) rfl rfl ?_
          refine jw_W_lr rfl ?_
          exact ⟨_, rfl, jm_fz_rf hKN, .inl ⟨rfl, fun hh => by obtain ⟨⟨g1, g2, g3⟩, g4, g5⟩ := hh; omega⟩⟩
        · exact absurd hc9 (show ¬ ¬ ((0 : Int) = 0) by omega)
  · rw [hs]
    show jw_W (js_S n) _ md_301 3 [some (.inr (.inr 103)), some (.inl w), some (.inl v), some (.inl k), some (.inl t), none, none] [.inl 0] σ _
    refine jw_W_if rfl (by unfold jw_rg; omega) (fun hc10 => ?_) (fun hc10 => ?_)
    · clear hc10
      refine jw_W_ld2 (z := (-100000000)) rfl rfl ?_
      refine jw_W_lr rfl ?_
      exact ⟨_, rfl, jm_fz_rf hKN, .inl ⟨rfl, fun hh => by obtain ⟨⟨g1, g2, g3⟩, g4, g5⟩ := hh; omega⟩⟩
    · exact absurd hc10 (show ¬ ¬ ((0 : Int) = 0) by omega)
theorem jx_heldAt {n : Nat} {σ : jw_H} {o : Nat} {C : List (ge_R × Int)} (hK : jx_K n o C σ) {w v k t : Int} (hwr : jw_rg w) (hvr : jw_rg v) (hk : jw_rg k) (ht : jw_rg t) : jw_T (js_S n) 9 132 [.inr (.inr 13), .inl w, .inl v, .inl k, .inl t] σ (fun r σ' => ∃ r', r = some (.inr (.inl r')) ∧ jx_fy σ σ' ∧ jn_hl σ w v k t r') := by
  refine jw_T_of (D := 8) (M := mm_132) rfl (Nat.le_of_ble_eq_true rfl) (ls0 := [some (.inr (.inr 13)), some (.inl w), some (.inl v), some (.inl k), some (.inl t), none]) rfl ?_ (by rintro _ _ ⟨_, rfl, -⟩; rfl)
  have hI := hK.1
  obtain ⟨hto, hfo, hp, hP, e0, e1, e2, hPm, hcb, c0, p0, -⟩ := jx_I0_x hI
  have ho := hp.1
  have hq := hP.1
  have hw := hP.2.1
  have hq2 := hP.2.2.1
  have hcn := hcb.1
  have hKN := hK.2.1
  have rhwr := hwr
  unfold jw_rg at rhwr
  have rhvr := hvr
  unfold jw_rg at rhvr
  have rhk := hk
  unfold jw_rg at rhk
  have rht := ht
  unfold jw_rg at rht
  refine jw_W_n 2 (i' := 2) (ls' := [some (.inr (.inr 13)), some (.inl w), some (.inl v), some (.inl k), some (.inl t), none]) (st' := [.inl w, .inr (.inr 13)]) rfl ?_
  refine jw_W_call (as := [.inr (.inr 13), .inl w]) (rest := []) rfl rfl rfl rfl (Nat.le_of_ble_eq_true rfl) (.inr rfl) (jx_isWish hK hwr) (by omega) ?_ rfl
  rintro r1 σz (⟨rfl, hs, q5⟩ | ⟨rfl, hs, q5⟩)
  · rw [hs]
    show jw_W (js_S n) _ md_132 3 [some (.inr (.inr 13)), some (.inl w), some (.inl v), some (.inl k), some (.inl t), none] [.inl 1] σ _
    refine jw_W_if rfl (by unfold jw_rg; omega) (fun hc1 => ?_) (fun hc1 => ?_)
    · exact absurd hc1 (show ¬ ((1 : Int) = 0) by omega)
    · clear hc1
      refine jw_W_n 2 (i' := 6) (ls' := [some (.inr (.inr 13)), some (.inl w), some (.inl v), some (.inl k), some (.inl t), none]) (st' := [.inl v, .inr (.inr 13)]) rfl ?_
      refine jw_W_call (as := [.inr (.inr 13), .inl v]) (rest := []) rfl rfl rfl rfl (Nat.le_of_ble_eq_true rfl) (.inr rfl) (jx_isWish hK hvr) (by omega) ?_ rfl
      rintro r1 σz (⟨rfl, hs, q6⟩ | ⟨rfl, hs, q6⟩)
      · rw [hs]
        show jw_W (js_S n) _ md_132 7 [some (.inr (.inr 13)), some (.inl w), some (.inl v), some (.inl k), some (.inl t), none] [.inl 1] σ _
        refine jw_W_if rfl (by unfold jw_rg; omega) (fun hc2 => ?_) (fun hc2 => ?_)
        · exact absurd hc2 (show ¬ ((1 : Int) = 0) by omega)
        · clear hc2
          refine jw_W_n 2 (i' := 10) (ls' := [some (.inr (.inr 13)), some (.inl w), some (.inl v), some (.inl k), some (.inl t), none]) (st' := [.inl v, .inl w]) rfl ?_
          refine jw_W_ic rfl (by unfold jw_rg; omega) (by unfold jw_rg; omega) (fun hc3 => ?_) (fun hc3 => ?_)
          · have hc3 : w = v := hc3
            refine jw_W_ld2 (z := (-100000000)) rfl rfl ?_
            refine jw_W_lr rfl ?_
            exact ⟨_, rfl, jx_fy_rf σ, .inl ⟨rfl, fun hh => by obtain ⟨⟨g1, g2, g3⟩, g4, g5⟩ := hh; omega⟩⟩
          · have hc3 : ¬ (w = v) := hc3
            refine jw_W_n 2 (i' := 13) (ls' := [some (.inr (.inr 13)), some (.inl w), some (.inl v), some (.inl k), some (.inl t), none]) (st' := [.inl ((-999)), .inl k]) rfl ?_
            refine jw_W_ic rfl (by unfold jw_rg; omega) (by unfold jw_rg; omega) (fun hc4 => ?_) (fun hc4 => ?_)
            · have hc4 : k < ((-999)) := hc4
              refine jw_W_ld2 (z := (-100000000)) rfl rfl ?_
              refine jw_W_lr rfl ?_
              exact ⟨_, rfl, jx_fy_rf σ, .inl ⟨rfl, fun hh => by obtain ⟨⟨g1, g2, g3⟩, g4, g5⟩ := hh; omega⟩⟩
            · have hc4 : ¬ (k < ((-999))) := hc4
              refine jw_W_n 2 (i' := 16) (ls' := [some (.inr (.inr 13)), some (.inl w), some (.inl v), some (.inl k), some (.inl t), none]) (st' := [.inl 999, .inl k]) rfl ?_
              refine jw_W_ic rfl (by unfold jw_rg; omega) (by unfold jw_rg; omega) (fun hc5 => ?_) (fun hc5 => ?_)
              · have hc5 : k > 999 := hc5
                refine jw_W_ld2 (z := (-100000000)) rfl rfl ?_
                refine jw_W_lr rfl ?_
                exact ⟨_, rfl, jx_fy_rf σ, .inl ⟨rfl, fun hh => by obtain ⟨⟨g1, g2, g3⟩, g4, g5⟩ := hh; omega⟩⟩
              · have hc5 : ¬ (k > 999) := hc5
                refine jw_W_n 2 (i' := 19) (ls' := [some (.inr (.inr 13)), some (.inl w), some (.inl v), some (.inl k), some (.inl t), none]) (st' := [.inl t, .inr (.inr 13)]) rfl ?_
                refine jw_W_call (as := [.inr (.inr 13), .inl t]) (rest := []) rfl rfl rfl rfl (Nat.le_of_ble_eq_true rfl) (.inr rfl) (jx_isPart hK ht) (by omega) ?_ rfl
                rintro r1 σz (⟨rfl, hs, q7⟩ | ⟨rfl, hs, q7⟩)
                · rw [hs]
                  show jw_W (js_S n) _ md_132 20 [some (.inr (.inr 13)), some (.inl w), some (.inl v), some (.inl k), some (.inl t), none] [.inl 1] σ _
                  refine jw_W_if rfl (by unfold jw_rg; omega) (fun hc6 => ?_) (fun hc6 => ?_)
                  · clear hc6
                    refine jw_W_n 1 (i' := 24) (ls' := [some (.inr (.inr 13)), some (.inl w), some (.inl v), some (.inl k), some (.inl t), none]) (st' := [.inr (.inr 13)]) rfl ?_
                    refine jw_W_gf rfl rfl rfl ?_
                    show jw_W (js_S n) _ md_132 25 [some (.inr (.inr 13)), some (.inl w), some (.inl v), some (.inl k), some (.inl t), none] [.inr (.inr 47)] σ _
                    refine jw_W_n 1 (i' := 26) (ls' := [some (.inr (.inr 13)), some (.inl w), some (.inl v), some (.inl k), some (.inl t), none]) (st' := [.inr (.inr 13), .inr (.inr 47)]) rfl ?_
                    refine jw_W_gf rfl rfl rfl ?_
                    show jw_W (js_S n) _ md_132 27 [some (.inr (.inr 13)), some (.inl w), some (.inl v), some (.inl k), some (.inl t), none] [.inr (.inr ((σ 13 2).toNat)), .inr (.inr 47)] σ _
                    rw [hto]
                    refine jw_W_n 2 (i' := 29) (ls' := [some (.inr (.inr 13)), some (.inl w), some (.inl v), some (.inl k), some (.inl t), none]) (st' := [.inl ((-1)), .inl ((-1)), .inr (.inr o), .inr (.inr 47)]) rfl ?_
                    refine jw_W_call (as := [.inr (.inr 47), .inr (.inr o), .inl ((-1)), .inl ((-1))]) (rest := []) rfl rfl rfl rfl (Nat.le_of_ble_eq_true rfl) (.inr rfl) (jx_fillK hK (by unfold jw_rg; omega) (by unfold jw_rg; omega)) (by omega) ?_ rfl
                    rintro r1 σ1 ⟨rfl, H1⟩
                    have hf1 := jx_fb_y H1.1
                    have hK1 := jx_K_y hf1 hK
                    have hI1 := hK1.1
                    have hto1 : (σ1 13 2).toNat = o := (jx_I0_x hI1).1
                    have hme1 := jx_fx_me (jx_fy_x hf1)
                    have hb1 := H1.2.1
                    have hl1 := jx_fL_len σ (-1) (-1) (σ 103 5 + 2 * σ 103 3).toNat
                    have hl2 : (jx_nx (σ 103 3)).length ≤ 2 := by unfold jx_nx; split; simp; split <;> simp
                    rw [List.length_append] at hb1
                    show jw_W (js_S n) _ md_132 30 [some (.inr (.inr 13)), some (.inl w), some (.inl v), some (.inl k), some (.inl t), none] [] σ1 _
                    refine jw_W_n 1 (i' := 31) (ls' := [some (.inr (.inr 13)), some (.inl w), some (.inl v), some (.inl k), some (.inl t), none]) (st' := [.inr (.inr 13)]) rfl ?_
                    refine jw_W_gf rfl rfl rfl ?_
                    show jw_W (js_S n) _ md_132 32 [some (.inr (.inr 13)), some (.inl w), some (.inl v), some (.inl k), some (.inl t), none] [.inr (.inr 47)] σ1 _
                    refine jw_W_n 1 (i' := 33) (ls' := [some (.inr (.inr 13)), some (.inl w), some (.inl v), some (.inl k), some (.inl t), none]) (st' := [.inr (.inr 13), .inr (.inr 47)]) rfl ?_
                    refine jw_W_gf rfl rfl rfl ?_
                    show jw_W (js_S n) _ md_132 34 [some (.inr (.inr 13)), some (.inl w), some (.inl v), some (.inl k), some (.inl t), none] [.inr (.inr ((σ1 13 2).toNat)), .inr (.inr 47)] σ1 _
                    rw [hto1]
                    refine jw_W_n 2 (i' := 36) (ls' := [some (.inr (.inr 13)), some (.inl w), some (.inl v), some (.inl k), some (.inl t), none]) (st' := [.inl k, .inl v, .inr (.inr o), .inr (.inr 47)]) rfl ?_
                    refine jw_W_call (as := [.inr (.inr 47), .inr (.inr o), .inl v, .inl k]) (rest := []) rfl rfl rfl rfl (Nat.le_of_ble_eq_true rfl) (.inr rfl) (jx_boundWish hp (by omega) (by omega) (by omega) (by omega)) (by omega) ?_ rfl
                    rintro r1 σ2 ⟨rfl, hs⟩
                    have ewr : jx_wr (jx_M σ1 o) v k = jx_wr σ v k := by unfold jx_wr; rw [jx_pq_W hI1.1.2.2.2 (by omega) (by rw [hme1 103 (by omega)]; omega)]; unfold jm_W; rw [hme1 104 (by omega)]
                    rw [ewr] at hs
                    have H2 := jx_bs_s (jx_wr σ v k) H1
                    rw [← hs] at H2
                    show jw_W (js_S n) _ md_132 37 [some (.inr (.inr 13)), some (.inl w), some (.inl v), some (.inl k), some (.inl t), none] [] σ2 _
                    refine jw_W_n 1 (i' := 38) (ls' := [some (.inr (.inr 13)), some (.inl w), some (.inl v), some (.inl k), some (.inl t), none]) (st' := [.inr (.inr 13)]) rfl ?_
                    refine jw_W_gf rfl rfl rfl ?_
                    show jw_W (js_S n) _ md_132 39 [some (.inr (.inr 13)), some (.inl w), some (.inl v), some (.inl k), some (.inl t), none] [.inr (.inr 47)] σ2 _
                    refine jw_W_call (as := [.inr (.inr 47)]) (rest := []) rfl rfl rfl rfl (Nat.le_of_ble_eq_true rfl) (.inr rfl) (jx_findK hKN (wo := -1) (ra := -1) (E := [jx_wr σ v k]) (by omega) (by omega) (fun r hr => by rw [List.mem_singleton] at hr; rw [hr]; exact jn_wr_rb hPm (by omega) (by omega) (by omega)) (by simp) H2) (by omega) ?_ rfl
                    rintro r1 σ3 ⟨rfl, hq3, P, p1, p2, p3, p4, p5⟩
                    have hf3 := jx_fy_q hq3
                    have hK3 := jx_K_y hf3 hK
                    have hI3 := hK3.1
                    have hto3 : (σ3 13 2).toNat = o := (jx_I0_x hI3).1
                    have hme3 := jx_fx_me (jx_fy_x hf3)
                    have e43 : σ3 103 4 = σ 103 4 := by rw [hme3 103 (by omega)]
                    have eW3 : jm_W σ3 w = jm_W σ w := by unfold jm_W; rw [hme3 104 (by omega)]
                    have hG3 := jx_I0_W hI3 (w := w) (by omega) (by omega)
                    rw [eW3] at hG3
                    have hpb : jx_pb σ3 48 := ⟨by have := p1.1; omega, fun i i0 i1 => by have hg := List.getElem?_eq_getElem (l := P) (i := i.toNat) (by have := p1.1; omega); have e := p1.2 _ _ hg; rw [Int.toNat_of_nonneg i0] at e; rw [e]; exact p4 _ (List.getElem_mem _)⟩
                    show jw_W (js_S n) _ md_132 40 [some (.inr (.inr 13)), some (.inl w), some (.inl v), some (.inl k), some (.inl t), none] [] σ3 _
                    refine jw_W_n 1 (i' := 41) (ls' := [some (.inr (.inr 13)), some (.inl w), some (.inl v), some (.inl k), some (.inl t), none]) (st' := [.inr (.inr 13)]) rfl ?_
                    refine jw_W_gf rfl rfl rfl ?_
                    show jw_W (js_S n) _ md_132 42 [some (.inr (.inr 13)), some (.inl w), some (.inl v), some (.inl k), some (.inl t), none] [.inr (.inr 47)] σ3 _
                    refine jw_W_gf rfl rfl rfl ?_
                    show jw_W (js_S n) _ md_132 43 [some (.inr (.inr 13)), some (.inl w), some (.inl v), some (.inl k), some (.inl t), none] [.inr (.inr 48)] σ3 _
                    refine jw_W_n 1 (i' := 44) (ls' := [some (.inr (.inr 13)), some (.inl w), some (.inl v), some (.inl k), some (.inl t), none]) (st' := [.inr (.inr 13), .inr (.inr 48)]) rfl ?_
                    refine jw_W_gf rfl rfl rfl ?_
                    show jw_W (js_S n) _ md_132 45 [some (.inr (.inr 13)), some (.inl w), some (.inl v), some (.inl k), some (.inl t), none] [.inr (.inr ((σ3 13 2).toNat)), .inr (.inr 48)] σ3 _
                    rw [hto3]
                    refine jw_W_gf rfl hp.2.1 rfl ?_
                    show jw_W (js_S n) _ md_132 46 [some (.inr (.inr 13)), some (.inl w), some (.inl v), some (.inl k), some (.inl t), none] [.inr (.inr (o + 1)), .inr (.inr 48)] σ3 _
                    refine jw_W_n 3 (i' := 49) (ls' := [some (.inr (.inr 13)), some (.inl w), some (.inl v), some (.inl k), some (.inl t), none]) (st' := [.inl (3 * w), .inr (.inr (o + 1)), .inr (.inr 48)]) rfl ?_
                    refine jw_W_call (as := [.inr (.inr 48), .inr (.inr (o + 1)), .inl (3 * w)]) (rest := []) rfl rfl rfl rfl (Nat.le_of_ble_eq_true rfl) (.inr rfl) (jx_firstWithMost (f := 3 * w) (jx_pp_48 n) hp.2.2.1 (by omega) (by omega) (by omega) (by rw [hG3.1]; exact hG3.2) hpb) (by omega) ?_ rfl
                    rintro r1 σz ⟨j, rfl, hs, hfj⟩
                    rw [hs]
                    rw [hG3.1, p1.1] at hfj
                    have hj64 : j = -1 ∧ P.length = 0 ∨ (0 ≤ j ∧ j < (P.length : Int)) := by rcases hfj with hh | hh; exact .inl ⟨hh.2, by omega⟩; exact .inr hh.1
                    show jw_W (js_S n) _ md_132 50 [some (.inr (.inr 13)), some (.inl w), some (.inl v), some (.inl k), some (.inl t), none] [.inl j] σ3 _
                    refine jw_W_n 2 (i' := 52) (ls' := [some (.inr (.inr 13)), some (.inl w), some (.inl v), some (.inl k), some (.inl t), some (.inl j)]) (st' := [.inl j]) rfl ?_
                    refine jw_W_if rfl (by unfold jw_rg; omega) (fun hc7 => ?_) (fun hc7 => ?_)
                    · have hc7 : j ≥ 0 := hc7
                      refine jw_W_n 2 (i' := 57) (ls' := [some (.inr (.inr 13)), some (.inl w), some (.inl v), some (.inl k), some (.inl t), some (.inl j)]) (st' := [.inr (.inr 13), .inr (.inr 13)]) rfl ?_
                      refine jw_W_gf rfl rfl rfl ?_
                      show jw_W (js_S n) _ md_132 58 [some (.inr (.inr 13)), some (.inl w), some (.inl v), some (.inl k), some (.inl t), some (.inl j)] [.inr (.inr 47), .inr (.inr 13)] σ3 _
                      refine jw_W_gf rfl rfl rfl ?_
                      show jw_W (js_S n) _ md_132 59 [some (.inr (.inr 13)), some (.inl w), some (.inl v), some (.inl k), some (.inl t), some (.inl j)] [.inr (.inr 48), .inr (.inr 13)] σ3 _
                      refine jw_W_n 2 (i' := 61) (ls' := [some (.inr (.inr 13)), some (.inl w), some (.inl v), some (.inl k), some (.inl t), some (.inl j)]) (st' := [.inr (.inr 13), .inl j, .inr (.inr 48), .inr (.inr 13)]) rfl ?_
                      refine jw_W_gf rfl rfl rfl ?_
                      show jw_W (js_S n) _ md_132 62 [some (.inr (.inr 13)), some (.inl w), some (.inl v), some (.inl k), some (.inl t), some (.inl j)] [.inr (.inr ((σ3 13 2).toNat)), .inl j, .inr (.inr 48), .inr (.inr 13)] σ3 _
                      rw [hto3]
                      refine jw_W_gf rfl hp.2.1 rfl ?_
                      show jw_W (js_S n) _ md_132 63 [some (.inr (.inr 13)), some (.inl w), some (.inl v), some (.inl k), some (.inl t), some (.inl j)] [.inr (.inr (o + 1)), .inl j, .inr (.inr 48), .inr (.inr 13)] σ3 _
                      refine jw_W_n 3 (i' := 66) (ls' := [some (.inr (.inr 13)), some (.inl w), some (.inl v), some (.inl k), some (.inl t), some (.inl j)]) (st' := [.inl (3 * w), .inr (.inr (o + 1)), .inl j, .inr (.inr 48), .inr (.inr 13)]) rfl ?_
                      refine jw_W_call (as := [.inr (.inr 48), .inl j, .inr (.inr (o + 1)), .inl (3 * w)]) (rest := [.inr (.inr 13)]) rfl rfl rfl rfl (Nat.le_of_ble_eq_true rfl) (.inr rfl) (jx_value (f := 3 * w) (jx_pp_48 n) hp.2.2.1 (by omega) (by omega) (by omega) (i := j) (by omega) (by omega)) (by omega) ?_ rfl
                      rintro r1 σz ⟨rfl, hs⟩
                      rw [hs, hG3.1]
                      have hmx := jx_mx_P (Pf := jx_pt σ3 48) p1.2 p4 p5 hfj (by omega)
                      have fj := jx_f_bd hG3.2 hmx.2.1
                      have wj : 0 < σ3 52 j ∧ σ3 52 j ≤ 162 := hmx.2.1.2.2.2
                      show jw_W (js_S n) _ md_132 67 [some (.inr (.inr 13)), some (.inl w), some (.inl v), some (.inl k), some (.inl t), some (.inl j)] [.inl (ge_f (jm_W σ w) (jx_pt σ3 48 j)), .inr (.inr 13)] σ3 _
                      refine jw_W_i2l rfl (by unfold jw_rg; omega) ?_
                      refine jw_W_n 1 (i' := 69) (ls' := [some (.inr (.inr 13)), some (.inl w), some (.inl v), some (.inl k), some (.inl t), some (.inl j)]) (st' := [.inr (.inr 13), .inr (.inl (ge_f (jm_W σ w) (jx_pt σ3 48 j))), .inr (.inr 13)]) rfl ?_
                      refine jw_W_gf rfl rfl rfl ?_
                      show jw_W (js_S n) _ md_132 70 [some (.inr (.inr 13)), some (.inl w), some (.inl v), some (.inl k), some (.inl t), some (.inl j)] [.inr (.inr 47), .inr (.inl (ge_f (jm_W σ w) (jx_pt σ3 48 j))), .inr (.inr 13)] σ3 _
                      refine jw_W_gf rfl rfl rfl ?_
                      show jw_W (js_S n) _ md_132 71 [some (.inr (.inr 13)), some (.inl w), some (.inl v), some (.inl k), some (.inl t), some (.inl j)] [.inr (.inr 48), .inr (.inl (ge_f (jm_W σ w) (jx_pt σ3 48 j))), .inr (.inr 13)] σ3 _
                      refine jw_W_gf rfl rfl rfl ?_
                      show jw_W (js_S n) _ md_132 72 [some (.inr (.inr 13)), some (.inl w), some (.inl v), some (.inl k), some (.inl t), some (.inl j)] [.inr (.inr 52), .inr (.inl (ge_f (jm_W σ w) (jx_pt σ3 48 j))), .inr (.inr 13)] σ3 _
                      refine jw_W_n 1 (i' := 73) (ls' := [some (.inr (.inr 13)), some (.inl w), some (.inl v), some (.inl k), some (.inl t), some (.inl j)]) (st' := [.inl j, .inr (.inr 52), .inr (.inl (ge_f (jm_W σ w) (jx_pt σ3 48 j))), .inr (.inr 13)]) rfl ?_
                      refine jw_W_ia rfl rfl (by omega) (by omega) (by omega) ?_
                      show jw_W (js_S n) _ md_132 74 [some (.inr (.inr 13)), some (.inl w), some (.inl v), some (.inl k), some (.inl t), some (.inl j)] [.inl (σ3 52 j), .inr (.inl (ge_f (jm_W σ w) (jx_pt σ3 48 j))), .inr (.inr 13)] σ3 _
                      refine jw_W_i2l rfl (by unfold jw_rg; omega) ?_
                      refine jw_W_n 1 (i' := 76) (ls' := [some (.inr (.inr 13)), some (.inl w), some (.inl v), some (.inl k), some (.inl t), some (.inl j)]) (st' := [.inl t, .inr (.inl (σ3 52 j)), .inr (.inl (ge_f (jm_W σ w) (jx_pt σ3 48 j))), .inr (.inr 13)]) rfl ?_
                      refine jw_W_call (as := [.inr (.inr 13), .inr (.inl (ge_f (jm_W σ w) (jx_pt σ3 48 j))), .inr (.inl (σ3 52 j)), .inl t]) (rest := []) rfl rfl rfl rfl (Nat.le_of_ble_eq_true rfl) (.inr rfl) (jx_partK (by unfold jm_bg; omega) (by omega) ht) (by omega) ?_ rfl
                      rintro r1 σ4 ⟨rfl, hs⟩
                      have hf4 : jx_fy σ σ4 := by rw [hs]; exact jx_fy_fs hf3 (by omega)
                      show jw_W (js_S n) _ md_132 77 [some (.inr (.inr 13)), some (.inl w), some (.inl v), some (.inl k), some (.inl t), some (.inl j)] [.inr (.inl (jm_of (ge_f (jm_W σ w) (jx_pt σ3 48 j)) (σ3 52 j) t))] σ4 _
                      refine jw_W_lr rfl ?_
                      exact ⟨_, rfl, hf4, .inr ⟨⟨⟨by omega, by omega, by omega⟩, by omega, by omega⟩, .inr ⟨_, hmx, rfl⟩⟩⟩
                    · have hc7 : ¬ (j ≥ 0) := hc7
                      refine jw_W_ld2 (z := (-99999999)) rfl rfl ?_
                      refine jw_W_n 1 (i' := 77) (ls' := [some (.inr (.inr 13)), some (.inl w), some (.inl v), some (.inl k), some (.inl t), some (.inl j)]) (st' := [.inr (.inl ((-99999999)))]) rfl ?_
                      refine jw_W_lr rfl ?_
                      exact ⟨_, rfl, hf3, .inr ⟨⟨⟨by omega, by omega, by omega⟩, by omega, by omega⟩, .inl ⟨rfl, fun ⟨y, hy⟩ => by
                        obtain ⟨a1, a2, a3⟩ := ge_pp_ok hy.1.1
                        have hz := (p5 (ge_pp y)).mpr ⟨ge_e_V (ge_e_sym a1) hy.1.1 a3 hy, a2⟩
                        have := List.length_pos_of_mem hz
                        omega⟩⟩⟩
                  · exact absurd hc6 (show ¬ ¬ ((1 : Int) ≠ 0) by omega)
                · rw [hs]
                  show jw_W (js_S n) _ md_132 20 [some (.inr (.inr 13)), some (.inl w), some (.inl v), some (.inl k), some (.inl t), none] [.inl 0] σ _
                  refine jw_W_if rfl (by unfold jw_rg; omega) (fun hc8 => ?_) (fun hc8 => ?_)
                  · exact absurd hc8 (show ¬ ((0 : Int) ≠ 0) by omega)
                  · clear hc8
                    refine jw_W_ld2 (z := (-100000000)) rfl rfl ?_
                    refine jw_W_lr rfl ?_
                    exact ⟨_, rfl, jx_fy_rf σ, .inl ⟨rfl, fun hh => by obtain ⟨⟨g1, g2, g3⟩, g4, g5⟩ := hh; omega⟩⟩
      · rw [hs]
        show jw_W (js_S n) _ md_132 7 [some (.inr (.inr 13)), some (.inl w), some (.inl v), some (.inl k), some (.inl t), none] [.inl 0] σ _
        refine jw_W_if rfl (by unfold jw_rg; omega) (fun hc9 => ?_) (fun hc9 => ?_)
        · clear hc9
          refine jw_W_ld2 (z := (-100000000)) rfl rfl ?_
          refine jw_W_lr rfl ?_
          exact ⟨_, rfl, jx_fy_rf σ, .inl ⟨rfl, fun hh => by obtain ⟨⟨g1, g2, g3⟩, g4, g5⟩ := hh; omega⟩⟩
        · exact absurd hc9 (show ¬ ¬ ((0 : Int) = 0) by omega)
  · rw [hs]
    show jw_W (js_S n) _ md_132 3 [some (.inr (.inr 13)), some (.inl w), some (.inl v), some (.inl k), some (.inl t), none] [.inl 0] σ _
    refine jw_W_if rfl (by unfold jw_rg; omega) (fun hc10 => ?_) (fun hc10 => ?_)
    · clear hc10
      refine jw_W_ld2 (z := (-100000000)) rfl rfl ?_
      refine jw_W_lr rfl ?_
      exact ⟨_, rfl, jx_fy_rf σ, .inl ⟨rfl, fun hh => by obtain ⟨⟨g1, g2, g3⟩, g4, g5⟩ := hh; omega⟩⟩
    · exact absurd hc10 (show ¬ ¬ ((0 : Int) = 0) by omega)

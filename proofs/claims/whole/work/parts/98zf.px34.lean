/-! ===== the reference's needed ===== -/
/-- a body without a keep or with one loosened, laid by the reference -/
theorem jm_lb_L {σ σ1 : jw_H} {C : List (ge_R × Int)} {wo mo : Int} (hKN : jm_KN σ C) (hwo : wo < σ 103 5) (hmo : mo < σ 103 5) (H : jm_lb σ wo mo σ1 (σ 103 5)) : jm_fz σ σ1 ∧ ∃ L, jm_is σ1 L ∧ L.length ≤ 22 ∧ (∀ x ∈ L, ge_V (jm_RR (σ 103 3) (jm_bk σ wo mo (σ 103 5).toNat)) x.1 ∧ ge_g x.1 = 1 ∧ jx_bd x.1) ∧ ∀ v, ge_V (jm_RR (σ 103 3) (jm_bk σ wo mo (σ 103 5).toNat)) v → ∃ x ∈ L, ge_e x.1 v := by
  have hP := hKN.1.1
  have hq := hP.1
  have hk := hP.2.2.1
  obtain ⟨fr, L, hI, hBd, hB, hn, hN, hf, hk2⟩ := H
  have e3 : σ1 103 3 = σ 103 3 := fr.2 3 (by omega)
  rw [e3] at hBd
  refine ⟨⟨fun o h1 h2 => fr.1 o (by omega) h2, fun j hj => fr.2 j (by omega), hN⟩, L, hI, ?_, fun x hx => ?_, hBd.2.1⟩
  · have h1 := ge_count (R := jm_RR (σ 103 3) (jm_bk σ wo mo (σ 103 5).toNat)) (Ps := L.map Prod.fst) (fun q hq => by
      obtain ⟨x, hx, rfl⟩ := List.mem_map.mp hq
      exact (hBd.1 x hx).1) (List.pairwise_map.mpr hBd.2.2)
    rw [List.length_map] at h1
    have h2 := jm_bk_len (σ := σ) (wo := wo) (mo := mo) hq.1 hq.2 (σ 103 5).toNat
    omega
  · obtain ⟨h1, h2, -⟩ := hBd.1 x hx
    exact ⟨h1, h2, (jx_fV_bd hP hwo hmo (E := []) (fun r hr => by cases hr) (by rw [List.nil_append]; exact h1) h2).2⟩
theorem jm_is_at {σ1 : jw_H} {L : List (ge_R × Int)} (h : jm_is σ1 L) {j : Int} (j0 : 0 ≤ j) (j1 : j < σ1 103 46) : ∃ x ∈ L, jm_pt σ1 j = x.1 := by
  have e := h.1
  have hg := List.getElem?_eq_getElem (l := L) (i := j.toNat) (by omega)
  have := (h.2 _ _ hg).1
  rw [Int.toNat_of_nonneg j0] at this
  exact ⟨_, List.getElem_mem _, this⟩
theorem jm_is_of {σ1 : jw_H} {L : List (ge_R × Int)} (h : jm_is σ1 L) {x : ge_R × Int} (hx : x ∈ L) : ∃ j, 0 ≤ j ∧ j < σ1 103 46 ∧ jm_pt σ1 j = x.1 := by
  obtain ⟨i, hi, e⟩ := List.getElem_of_mem hx
  have := h.1
  exact ⟨(i : Int), by omega, by omega, (h.2 i x (by rw [List.getElem?_eq_getElem hi, e])).1⟩
theorem jm_need_v {μ : jw_H} {k : Int} (hP : jm_Pb μ) (k0 : 0 ≤ k) (k1 : k < μ 103 5) {x y z w : Int} (hv : jx_bd (x, y, z, w)) : (-1000000 ≤ μ 105 (5 * k) * x + μ 105 (5 * k + 1) * y + μ 105 (5 * k + 2) * z - μ 105 (5 * k + 3) * w ∧ μ 105 (5 * k) * x + μ 105 (5 * k + 1) * y + μ 105 (5 * k + 2) * z - μ 105 (5 * k + 3) * w ≤ 1000000) ∧ ge_s (jm_kr μ k 0) (x, y, z, w) = jm_sg μ k * (μ 105 (5 * k) * x + μ 105 (5 * k + 1) * y + μ 105 (5 * k + 2) * z - μ 105 (5 * k + 3) * w) := by
  have h := jx_pr_bd hP k0 (by have := hP.1; omega) hv
  have e : ge_s (jx_pr μ k) (x, y, z, w) = μ 105 (5 * k) * x + μ 105 (5 * k + 1) * y + μ 105 (5 * k + 2) * z - μ 105 (5 * k + 3) * w := by
    simp only [ge_s, jx_pr, jm_pf, jm_if, if_pos k1, Int.add_zero]
  rw [e] at h
  refine ⟨h, ?_⟩
  simp only [ge_s, jm_kr, Int.add_zero, Int.mul_sub, Int.mul_add, Int.mul_assoc]
theorem jm_kbd {μ : jw_H} {k : Int} (hP : jm_Pb μ) (k0 : 0 ≤ k) (k1 : k < μ 103 5) : (-100 ≤ μ 105 (5 * k) ∧ μ 105 (5 * k) ≤ 100) ∧ (-100 ≤ μ 105 (5 * k + 1) ∧ μ 105 (5 * k + 1) ≤ 100) ∧ (-100 ≤ μ 105 (5 * k + 2) ∧ μ 105 (5 * k + 2) ≤ 100) ∧ (-100 ≤ μ 105 (5 * k + 3) ∧ μ 105 (5 * k + 3) ≤ 100) ∧ (0 ≤ μ 105 (5 * k + 4) ∧ μ 105 (5 * k + 4) ≤ 3) := by
  obtain ⟨-, -, -, hK, -, -⟩ := hP
  obtain ⟨c, ⟨n0, n1⟩, hkd⟩ := hK k k0 k1
  have c0 := c 0 (by omega) (by omega)
  have c1 := c 1 (by omega) (by omega)
  have c2 := c 2 (by omega) (by omega)
  rw [Int.add_zero] at c0
  omega
theorem jm_isn_loop {n : Nat} {σ : jw_H} {D : Nat} {k m sg : Int} {Q : Option jw_V → jw_H → Prop} (hP : jm_Pb σ) (k0 : 0 ≤ k) (k1 : k < σ 103 5) (m0 : 0 ≤ m ∧ m ≤ 22) (hs : sg = jm_sg σ k) (hbd : ∀ j, 0 ≤ j → j < m → jx_bd (jm_pt σ j)) (hQ : ∀ {f : Int}, (f = 1 ∧ ∃ c, 0 ≤ c ∧ c < m ∧ 0 < ge_s (jm_kr σ k 0) (jm_pt σ c)) ∨ (f = 0 ∧ ∀ c, 0 ≤ c → c < m → ¬ 0 < ge_s (jm_kr σ k 0) (jm_pt σ c)) → Q (some (.inl f)) σ) : ∀ (fu : Nat) {j f : Int} {v : Option jw_V}, 0 ≤ j → j + fu = m → (f = 1 ∧ ∃ c, 0 ≤ c ∧ c < j ∧ 0 < ge_s (jm_kr σ k 0) (jm_pt σ c)) ∨ (f = 0 ∧ ∀ c, 0 ≤ c → c < j → ¬ 0 < ge_s (jm_kr σ k 0) (jm_pt σ c)) → jw_W (js_S n) D md_279 25 [some (.inr (.inr 103)), some (.inl k), some (.inl m), some (.inl sg), some (.inl f), some (.inl j), v, none] [] σ Q
  | fu, j, f, v, j0, hk, H => by
    have ih : ∀ {f' : Int} {v' : Option jw_V}, j < m → ((f' = 1 ∧ ∃ c, 0 ≤ c ∧ c < j + 1 ∧ 0 < ge_s (jm_kr σ k 0) (jm_pt σ c)) ∨ (f' = 0 ∧ ∀ c, 0 ≤ c → c < j + 1 → ¬ 0 < ge_s (jm_kr σ k 0) (jm_pt σ c))) → jw_W (js_S n) D md_279 25 [some (.inr (.inr 103)), some (.inl k), some (.inl m), some (.inl sg), some (.inl f'), some (.inl (j + 1)), v', none] [] σ Q := by
      intro f' v' h1 h2
      match fu, hk with
      | 0, hk => omega
      | fu + 1, hk => exact jm_isn_loop hP k0 k1 m0 hs hbd hQ fu (by omega) (by omega) h2
    have hkk := hP.2.2.1
    obtain ⟨kb0, kb1, kb2, kb3, kb4⟩ := jm_kbd hP k0 k1
    have hs1 : sg = -1 ∨ sg = 1 := hs ▸ jm_sg_1 σ k
    have hf01 : f = 1 ∨ f = 0 := by rcases H with ⟨h, -⟩ | ⟨h, -⟩ <;> omega
    refine jw_W_n 2 (i' := 27) (ls' := [some (.inr (.inr 103)), some (.inl k), some (.inl m), some (.inl sg), some (.inl f), some (.inl j), v, none]) (st' := [.inl m, .inl j]) rfl ?_
    refine jw_W_ic rfl (by unfold jw_rg; omega) (by unfold jw_rg; omega) (fun hc1 => ?_) (fun hc1 => ?_)
    · have hc1 : j ≥ m := hc1
      refine jw_W_n 1 (i' := 102) (ls' := [some (.inr (.inr 103)), some (.inl k), some (.inl m), some (.inl sg), some (.inl f), some (.inl j), v, none]) (st' := [.inl f]) rfl ?_
      refine jw_W_ir rfl ?_
      have hkl : j = m := by omega
      subst hkl
      exact hQ H
    · have hc1 : ¬ (j ≥ m) := hc1
      refine jw_W_n 1 (i' := 29) (ls' := [some (.inr (.inr 103)), some (.inl k), some (.inl m), some (.inl sg), some (.inl f), some (.inl j), v, none]) (st' := [.inr (.inr 103)]) rfl ?_
      refine jw_W_gf rfl rfl rfl ?_
      show jw_W (js_S n) _ md_279 30 [some (.inr (.inr 103)), some (.inl k), some (.inl m), some (.inl sg), some (.inl f), some (.inl j), v, none] [.inr (.inr 105)] σ _
      refine jw_W_n 3 (i' := 33) (ls' := [some (.inr (.inr 103)), some (.inl k), some (.inl m), some (.inl sg), some (.inl f), some (.inl j), v, none]) (st' := [.inl (5 * k), .inr (.inr 105)]) rfl ?_
      refine jw_W_ia rfl rfl (by omega) (by omega) (by omega) ?_
      show jw_W (js_S n) _ md_279 34 [some (.inr (.inr 103)), some (.inl k), some (.inl m), some (.inl sg), some (.inl f), some (.inl j), v, none] [.inl (σ 105 (5 * k))] σ _
      refine jw_W_i2l rfl (by unfold jw_rg; omega) ?_
      refine jw_W_n 1 (i' := 36) (ls' := [some (.inr (.inr 103)), some (.inl k), some (.inl m), some (.inl sg), some (.inl f), some (.inl j), v, none]) (st' := [.inr (.inr 103), .inr (.inl (σ 105 (5 * k)))]) rfl ?_
      refine jw_W_gf rfl rfl rfl ?_
      show jw_W (js_S n) _ md_279 37 [some (.inr (.inr 103)), some (.inl k), some (.inl m), some (.inl sg), some (.inl f), some (.inl j), v, none] [.inr (.inr 125), .inr (.inl (σ 105 (5 * k)))] σ _
      refine jw_W_n 1 (i' := 38) (ls' := [some (.inr (.inr 103)), some (.inl k), some (.inl m), some (.inl sg), some (.inl f), some (.inl j), v, none]) (st' := [.inl j, .inr (.inr 125), .inr (.inl (σ 105 (5 * k)))]) rfl ?_
      refine jw_W_la rfl rfl (by omega) (by omega) (by omega) ?_
      show jw_W (js_S n) _ md_279 39 [some (.inr (.inr 103)), some (.inl k), some (.inl m), some (.inl sg), some (.inl f), some (.inl j), v, none] [.inr (.inl (σ 125 j)), .inr (.inl (σ 105 (5 * k)))] σ _
      refine jw_W_n 2 (i' := 41) (ls' := [some (.inr (.inr 103)), some (.inl k), some (.inl m), some (.inl sg), some (.inl f), some (.inl j), v, none]) (st' := [.inr (.inr 103), .inr (.inl ((σ 105 (5 * k)) * (σ 125 j)))]) rfl ?_
      refine jw_W_gf rfl rfl rfl ?_
      show jw_W (js_S n) _ md_279 42 [some (.inr (.inr 103)), some (.inl k), some (.inl m), some (.inl sg), some (.inl f), some (.inl j), v, none] [.inr (.inr 105), .inr (.inl ((σ 105 (5 * k)) * (σ 125 j)))] σ _
      refine jw_W_n 5 (i' := 47) (ls' := [some (.inr (.inr 103)), some (.inl k), some (.inl m), some (.inl sg), some (.inl f), some (.inl j), v, none]) (st' := [.inl ((5 * k) + 1), .inr (.inr 105), .inr (.inl ((σ 105 (5 * k)) * (σ 125 j)))]) rfl ?_
      refine jw_W_ia rfl rfl (by omega) (by omega) (by omega) ?_
      show jw_W (js_S n) _ md_279 48 [some (.inr (.inr 103)), some (.inl k), some (.inl m), some (.inl sg), some (.inl f), some (.inl j), v, none] [.inl (σ 105 ((5 * k) + 1)), .inr (.inl ((σ 105 (5 * k)) * (σ 125 j)))] σ _
      refine jw_W_i2l rfl (by unfold jw_rg; omega) ?_
      refine jw_W_n 1 (i' := 50) (ls' := [some (.inr (.inr 103)), some (.inl k), some (.inl m), some (.inl sg), some (.inl f), some (.inl j), v, none]) (st' := [.inr (.inr 103), .inr (.inl (σ 105 ((5 * k) + 1))), .inr (.inl ((σ 105 (5 * k)) * (σ 125 j)))]) rfl ?_
      refine jw_W_gf rfl rfl rfl ?_
      show jw_W (js_S n) _ md_279 51 [some (.inr (.inr 103)), some (.inl k), some (.inl m), some (.inl sg), some (.inl f), some (.inl j), v, none] [.inr (.inr 126), .inr (.inl (σ 105 ((5 * k) + 1))), .inr (.inl ((σ 105 (5 * k)) * (σ 125 j)))] σ _
      refine jw_W_n 1 (i' := 52) (ls' := [some (.inr (.inr 103)), some (.inl k), some (.inl m), some (.inl sg), some (.inl f), some (.inl j), v, none]) (st' := [.inl j, .inr (.inr 126), .inr (.inl (σ 105 ((5 * k) + 1))), .inr (.inl ((σ 105 (5 * k)) * (σ 125 j)))]) rfl ?_
      refine jw_W_la rfl rfl (by omega) (by omega) (by omega) ?_
      show jw_W (js_S n) _ md_279 53 [some (.inr (.inr 103)), some (.inl k), some (.inl m), some (.inl sg), some (.inl f), some (.inl j), v, none] [.inr (.inl (σ 126 j)), .inr (.inl (σ 105 ((5 * k) + 1))), .inr (.inl ((σ 105 (5 * k)) * (σ 125 j)))] σ _
      refine jw_W_n 3 (i' := 56) (ls' := [some (.inr (.inr 103)), some (.inl k), some (.inl m), some (.inl sg), some (.inl f), some (.inl j), v, none]) (st' := [.inr (.inr 103), .inr (.inl (((σ 105 (5 * k)) * (σ 125 j)) + ((σ 105 ((5 * k) + 1)) * (σ 126 j))))]) rfl ?_
      refine jw_W_gf rfl rfl rfl ?_
      show jw_W (js_S n) _ md_279 57 [some (.inr (.inr 103)), some (.inl k), some (.inl m), some (.inl sg), some (.inl f), some (.inl j), v, none] [.inr (.inr 105), .inr (.inl (((σ 105 (5 * k)) * (σ 125 j)) + ((σ 105 ((5 * k) + 1)) * (σ 126 j))))] σ _
      refine jw_W_n 5 (i' := 62) (ls' := [some (.inr (.inr 103)), some (.inl k), some (.inl m), some (.inl sg), some (.inl f), some (.inl j), v, none]) (st' := [.inl ((5 * k) + 2), .inr (.inr 105), .inr (.inl (((σ 105 (5 * k)) * (σ 125 j)) + ((σ 105 ((5 * k) + 1)) * (σ 126 j))))]) rfl ?_
      refine jw_W_ia rfl rfl (by omega) (by omega) (by omega) ?_
      show jw_W (js_S n) _ md_279 63 [some (.inr (.inr 103)), some (.inl k), some (.inl m), some (.inl sg), some (.inl f), some (.inl j), v, none] [.inl (σ 105 ((5 * k) + 2)), .inr (.inl (((σ 105 (5 * k)) * (σ 125 j)) + ((σ 105 ((5 * k) + 1)) * (σ 126 j))))] σ _
      refine jw_W_i2l rfl (by unfold jw_rg; omega) ?_
      refine jw_W_n 1 (i' := 65) (ls' := [some (.inr (.inr 103)), some (.inl k), some (.inl m), some (.inl sg), some (.inl f), some (.inl j), v, none]) (st' := [.inr (.inr 103), .inr (.inl (σ 105 ((5 * k) + 2))), .inr (.inl (((σ 105 (5 * k)) * (σ 125 j)) + ((σ 105 ((5 * k) + 1)) * (σ 126 j))))]) rfl ?_
      refine jw_W_gf rfl rfl rfl ?_
      show jw_W (js_S n) _ md_279 66 [some (.inr (.inr 103)), some (.inl k), some (.inl m), some (.inl sg), some (.inl f), some (.inl j), v, none] [.inr (.inr 127), .inr (.inl (σ 105 ((5 * k) + 2))), .inr (.inl (((σ 105 (5 * k)) * (σ 125 j)) + ((σ 105 ((5 * k) + 1)) * (σ 126 j))))] σ _
      refine jw_W_n 1 (i' := 67) (ls' := [some (.inr (.inr 103)), some (.inl k), some (.inl m), some (.inl sg), some (.inl f), some (.inl j), v, none]) (st' := [.inl j, .inr (.inr 127), .inr (.inl (σ 105 ((5 * k) + 2))), .inr (.inl (((σ 105 (5 * k)) * (σ 125 j)) + ((σ 105 ((5 * k) + 1)) * (σ 126 j))))]) rfl ?_
      refine jw_W_la rfl rfl (by omega) (by omega) (by omega) ?_
      show jw_W (js_S n) _ md_279 68 [some (.inr (.inr 103)), some (.inl k), some (.inl m), some (.inl sg), some (.inl f), some (.inl j), v, none] [.inr (.inl (σ 127 j)), .inr (.inl (σ 105 ((5 * k) + 2))), .inr (.inl (((σ 105 (5 * k)) * (σ 125 j)) + ((σ 105 ((5 * k) + 1)) * (σ 126 j))))] σ _
      refine jw_W_n 3 (i' := 71) (ls' := [some (.inr (.inr 103)), some (.inl k), some (.inl m), some (.inl sg), some (.inl f), some (.inl j), v, none]) (st' := [.inr (.inr 103), .inr (.inl ((((σ 105 (5 * k)) * (σ 125 j)) + ((σ 105 ((5 * k) + 1)) * (σ 126 j))) + ((σ 105 ((5 * k) + 2)) * (σ 127 j))))]) rfl ?_
      refine jw_W_gf rfl rfl rfl ?_
      show jw_W (js_S n) _ md_279 72 [some (.inr (.inr 103)), some (.inl k), some (.inl m), some (.inl sg), some (.inl f), some (.inl j), v, none] [.inr (.inr 105), .inr (.inl ((((σ 105 (5 * k)) * (σ 125 j)) + ((σ 105 ((5 * k) + 1)) * (σ 126 j))) + ((σ 105 ((5 * k) + 2)) * (σ 127 j))))] σ _
      refine jw_W_n 5 (i' := 77) (ls' := [some (.inr (.inr 103)), some (.inl k), some (.inl m), some (.inl sg), some (.inl f), some (.inl j), v, none]) (st' := [.inl ((5 * k) + 3), .inr (.inr 105), .inr (.inl ((((σ 105 (5 * k)) * (σ 125 j)) + ((σ 105 ((5 * k) + 1)) * (σ 126 j))) + ((σ 105 ((5 * k) + 2)) * (σ 127 j))))]) rfl ?_
      refine jw_W_ia rfl rfl (by omega) (by omega) (by omega) ?_
      show jw_W (js_S n) _ md_279 78 [some (.inr (.inr 103)), some (.inl k), some (.inl m), some (.inl sg), some (.inl f), some (.inl j), v, none] [.inl (σ 105 ((5 * k) + 3)), .inr (.inl ((((σ 105 (5 * k)) * (σ 125 j)) + ((σ 105 ((5 * k) + 1)) * (σ 126 j))) + ((σ 105 ((5 * k) + 2)) * (σ 127 j))))] σ _
      refine jw_W_i2l rfl (by unfold jw_rg; omega) ?_
      refine jw_W_n 1 (i' := 80) (ls' := [some (.inr (.inr 103)), some (.inl k), some (.inl m), some (.inl sg), some (.inl f), some (.inl j), v, none]) (st' := [.inr (.inr 103), .inr (.inl (σ 105 ((5 * k) + 3))), .inr (.inl ((((σ 105 (5 * k)) * (σ 125 j)) + ((σ 105 ((5 * k) + 1)) * (σ 126 j))) + ((σ 105 ((5 * k) + 2)) * (σ 127 j))))]) rfl ?_
      refine jw_W_gf rfl rfl rfl ?_
      show jw_W (js_S n) _ md_279 81 [some (.inr (.inr 103)), some (.inl k), some (.inl m), some (.inl sg), some (.inl f), some (.inl j), v, none] [.inr (.inr 128), .inr (.inl (σ 105 ((5 * k) + 3))), .inr (.inl ((((σ 105 (5 * k)) * (σ 125 j)) + ((σ 105 ((5 * k) + 1)) * (σ 126 j))) + ((σ 105 ((5 * k) + 2)) * (σ 127 j))))] σ _
      refine jw_W_n 1 (i' := 82) (ls' := [some (.inr (.inr 103)), some (.inl k), some (.inl m), some (.inl sg), some (.inl f), some (.inl j), v, none]) (st' := [.inl j, .inr (.inr 128), .inr (.inl (σ 105 ((5 * k) + 3))), .inr (.inl ((((σ 105 (5 * k)) * (σ 125 j)) + ((σ 105 ((5 * k) + 1)) * (σ 126 j))) + ((σ 105 ((5 * k) + 2)) * (σ 127 j))))]) rfl ?_
      refine jw_W_la rfl rfl (by omega) (by omega) (by omega) ?_
      show jw_W (js_S n) _ md_279 83 [some (.inr (.inr 103)), some (.inl k), some (.inl m), some (.inl sg), some (.inl f), some (.inl j), v, none] [.inr (.inl (σ 128 j)), .inr (.inl (σ 105 ((5 * k) + 3))), .inr (.inl ((((σ 105 (5 * k)) * (σ 125 j)) + ((σ 105 ((5 * k) + 1)) * (σ 126 j))) + ((σ 105 ((5 * k) + 2)) * (σ 127 j))))] σ _
      refine jw_W_n 2 (i' := 85) (ls' := [some (.inr (.inr 103)), some (.inl k), some (.inl m), some (.inl sg), some (.inl f), some (.inl j), v, none]) (st' := [.inr (.inl (((((σ 105 (5 * k)) * (σ 125 j)) + ((σ 105 ((5 * k) + 1)) * (σ 126 j))) + ((σ 105 ((5 * k) + 2)) * (σ 127 j))) - ((σ 105 ((5 * k) + 3)) * (σ 128 j))))]) rfl ?_
      obtain ⟨⟨b1, b2⟩, hge⟩ := jm_need_v hP k0 k1 (hbd j j0 (by omega))
      generalize he : σ 105 (5 * k) * σ 125 j + σ 105 (5 * k + 1) * σ 126 j + σ 105 (5 * k + 2) * σ 127 j - σ 105 (5 * k + 3) * σ 128 j = e at b1 b2 hge
      rw [← hs] at hge
      have hsb : -1000000 ≤ sg * e ∧ sg * e ≤ 1000000 := by rcases hs1 with h | h <;> rw [h] <;> omega
      refine jw_W_n 2 (i' := 87) (ls' := [some (.inr (.inr 103)), some (.inl k), some (.inl m), some (.inl sg), some (.inl f), some (.inl j), some (.inr (.inl e)), none]) (st' := [.inl f]) rfl ?_
      refine jw_W_if rfl (by unfold jw_rg; omega) (fun hc2 => ?_) (fun hc2 => ?_)
      · have hc2 : f ≠ 0 := hc2
        refine jw_W_n 5 (i' := 25) (ls' := [some (.inr (.inr 103)), some (.inl k), some (.inl m), some (.inl sg), some (.inl 1), some (.inl (j + 1)), some (.inr (.inl e)), none]) (st' := []) rfl ?_
        refine ih (by omega) ?_
        rcases H with ⟨h1, c, c0, c1, c2⟩ | ⟨h1, h2⟩
        · exact .inl ⟨rfl, c, c0, by omega, c2⟩
        · exact .inl ⟨rfl, j, j0, by omega, by first | (have : ge_s (jm_kr σ k 0) (jm_pt σ j) = sg * e := hge; omega) | omega⟩
      · have hc2 : f = 0 := Classical.not_not.mp hc2
        refine jw_W_n 1 (i' := 89) (ls' := [some (.inr (.inr 103)), some (.inl k), some (.inl m), some (.inl sg), some (.inl f), some (.inl j), some (.inr (.inl e)), none]) (st' := [.inl sg]) rfl ?_
        refine jw_W_i2l rfl (by unfold jw_rg; omega) ?_
        refine jw_W_n 3 (i' := 93) (ls' := [some (.inr (.inr 103)), some (.inl k), some (.inl m), some (.inl sg), some (.inl f), some (.inl j), some (.inr (.inl e)), none]) (st' := [.inr (.inl 0), .inr (.inl (sg * e))]) rfl ?_
        refine jw_W_lc rfl rfl (by unfold jw_rgl; omega) (by unfold jw_rgl; omega) (fun hc3 => ?_) (fun hc3 => ?_)
        · have hc3 : (sg * e) ≤ 0 := hc3
          refine jw_W_n 4 (i' := 25) (ls' := [some (.inr (.inr 103)), some (.inl k), some (.inl m), some (.inl sg), some (.inl 0), some (.inl (j + 1)), some (.inr (.inl e)), none]) (st' := []) rfl ?_
          refine ih (by omega) ?_
          rcases H with ⟨h1, c, c0, c1, c2⟩ | ⟨h1, h2⟩
          · exact absurd h1 (by omega)
          · exact .inr ⟨rfl, fun c c0 c1 => by
            by_cases ec : c = j
            · subst ec
              have : ge_s (jm_kr σ k 0) (jm_pt σ c) = sg * e := hge
              omega
            · exact h2 c c0 (by omega)⟩
        · have hc3 : ¬ ((sg * e) ≤ 0) := hc3
          refine jw_W_n 5 (i' := 25) (ls' := [some (.inr (.inr 103)), some (.inl k), some (.inl m), some (.inl sg), some (.inl 1), some (.inl (j + 1)), some (.inr (.inl e)), none]) (st' := []) rfl ?_
          refine ih (by omega) ?_
          rcases H with ⟨h1, c, c0, c1, c2⟩ | ⟨h1, h2⟩
          · exact .inl ⟨rfl, c, c0, by omega, c2⟩
          · exact .inl ⟨rfl, j, j0, by omega, by first | (have : ge_s (jm_kr σ k 0) (jm_pt σ j) = sg * e := hge; omega) | omega⟩
theorem jm_isNeeded {n : Nat} {σ : jw_H} {C : List (ge_R × Int)} (hKN : jm_KN σ C) {k : Int} (k0 : 0 ≤ k) (k1 : k < σ 103 5) : jw_T (js_S n) 7 279 [.inr (.inr 103), .inl k] σ (fun r σ' => ∃ v, r = some (.inl v) ∧ jm_fz σ σ' ∧ (v = 1 ∧ jm_nd σ k ∨ v = 0 ∧ ¬ jm_nd σ k)) := by
  refine jw_T_of (D := 6) (M := mm_279) rfl (Nat.le_of_ble_eq_true rfl) (ls0 := [some (.inr (.inr 103)), some (.inl k), none, none, none, none, none, none]) rfl ?_ (by rintro _ _ ⟨v, rfl, -, ⟨rfl, -⟩ | ⟨rfl, -⟩⟩ <;> rfl)
  have hcb := (jm_kw_cbd hKN.1).2 σ (jm_fk_rf σ)
  have hcn := hcb.1
  have hPm := hKN.1.1
  have hqq := hPm.1
  have hww := hPm.2.1
  have hkk := hPm.2.2.1
  have hg57 := hKN.2.2.1.1
  have hg58 := hKN.2.2.2.1.1
  refine jw_W_n 3 (i' := 3) (ls' := [some (.inr (.inr 103)), some (.inl k), none, none, none, none, none, none]) (st' := [.inl ((-1)), .inl k, .inr (.inr 103)]) rfl ?_
  refine jw_W_call (as := [.inr (.inr 103), .inl k, .inl ((-1))]) (rest := []) rfl rfl rfl rfl (Nat.le_of_ble_eq_true rfl) (.inr rfl) (jm_laysBody hPm hKN.1.2.2.2.2.1 (by unfold jw_rg; omega) (by unfold jw_rg; omega)) (by omega) ?_ rfl
  rintro r1 σ1 ⟨rfl, hlb⟩
  obtain ⟨hz1, L, hL, hll, hLv, hLe⟩ := jm_lb_L hKN (by omega) (by omega) hlb
  have hKN1 := jm_KN_fz hz1 hKN
  have hPm1 := hKN1.1.1
  have e31 := hz1.2.1 3 (by omega)
  have e51 := hz1.2.1 5 (by omega)
  have hkk1 := hPm1.2.2.1
  have hL46 := hL.1
  obtain ⟨kb0, kb1, kb2, kb3, kb4⟩ := jm_kbd hPm1 k0 (show k < σ1 103 5 by omega)
  show jw_W (js_S n) _ md_279 4 [some (.inr (.inr 103)), some (.inl k), none, none, none, none, none, none] [] σ1 _
  refine jw_W_n 1 (i' := 5) (ls' := [some (.inr (.inr 103)), some (.inl k), none, none, none, none, none, none]) (st' := [.inr (.inr 103)]) rfl ?_
  refine jw_W_gf rfl rfl rfl ?_
  show jw_W (js_S n) _ md_279 6 [some (.inr (.inr 103)), some (.inl k), none, none, none, none, none, none] [.inl (σ1 103 46)] σ1 _
  refine jw_W_n 2 (i' := 8) (ls' := [some (.inr (.inr 103)), some (.inl k), some (.inl (σ1 103 46)), none, none, none, none, none]) (st' := [.inr (.inr 103)]) rfl ?_
  refine jw_W_gf rfl rfl rfl ?_
  show jw_W (js_S n) _ md_279 9 [some (.inr (.inr 103)), some (.inl k), some (.inl (σ1 103 46)), none, none, none, none, none] [.inr (.inr 105)] σ1 _
  refine jw_W_n 5 (i' := 14) (ls' := [some (.inr (.inr 103)), some (.inl k), some (.inl (σ1 103 46)), none, none, none, none, none]) (st' := [.inl ((5 * k) + 4), .inr (.inr 105)]) rfl ?_
  refine jw_W_ia rfl rfl (by omega) (by omega) (by omega) ?_
  show jw_W (js_S n) _ md_279 15 [some (.inr (.inr 103)), some (.inl k), some (.inl (σ1 103 46)), none, none, none, none, none] [.inl (σ1 105 ((5 * k) + 4))] σ1 _
  refine jw_W_n 1 (i' := 16) (ls' := [some (.inr (.inr 103)), some (.inl k), some (.inl (σ1 103 46)), none, none, none, none, none]) (st' := [.inl 1, .inl (σ1 105 ((5 * k) + 4))]) rfl ?_
  refine jw_W_ic rfl (by unfold jw_rg; omega) (by unfold jw_rg; omega) (fun hc1 => ?_) (fun hc1 => ?_)
  · have hc1 : (σ1 105 ((5 * k) + 4)) ≠ 1 := hc1
    refine jw_W_n 6 (i' := 25) (ls' := [some (.inr (.inr 103)), some (.inl k), some (.inl (σ1 103 46)), some (.inl 1), some (.inl 0), some (.inl 0), none, none]) (st' := []) rfl ?_
    have ekr : jm_kr σ1 k 0 = jm_kr σ k 0 := jm_kr_fr hlb.1 k 0
    refine jm_isn_loop hPm1 k0 (by omega) (by omega) (by unfold jm_sg; rw [if_neg (by assumption)]) (fun j j0 j1 => ?_) (fun {f} H => ?_) (σ1 103 46).toNat (j := 0) (f := 0) (by omega) (by omega) (.inr ⟨rfl, fun c c0 c1 => by omega⟩)
    · obtain ⟨x, hx, ex⟩ := jm_is_at hL j0 j1
      rw [ex]
      exact (hLv x hx).2.2
    · refine ⟨f, rfl, hz1, ?_⟩
      rw [ekr] at H
      rcases H with ⟨h1, c, c0, c1, c2⟩ | ⟨h1, h2⟩
      · obtain ⟨x, hx, ex⟩ := jm_is_at hL c0 c1
        rw [ex] at c2
        exact .inl ⟨h1, x.1, (hLv x hx).1, c2⟩
      · refine .inr ⟨h1, fun hh => ?_⟩
        obtain ⟨v, hv, g1, hs⟩ := jm_nd_pp hh
        obtain ⟨x, hx, ex⟩ := hLe v hv
        obtain ⟨c, c0, c1, ec⟩ := jm_is_of hL hx
        have := (ge_sgn (ge_e_s ex (jm_kr σ k 0)) hv.1.1 (hLv x hx).1.1.1).1
        have h3 := h2 c c0 c1
        rw [ec] at h3
        omega
  · have hc1 : (σ1 105 ((5 * k) + 4)) = 1 := Classical.not_not.mp hc1
    refine jw_W_n 7 (i' := 25) (ls' := [some (.inr (.inr 103)), some (.inl k), some (.inl (σ1 103 46)), some (.inl ((-1))), some (.inl 0), some (.inl 0), none, none]) (st' := []) rfl ?_
    have ekr : jm_kr σ1 k 0 = jm_kr σ k 0 := jm_kr_fr hlb.1 k 0
    refine jm_isn_loop hPm1 k0 (by omega) (by omega) (by unfold jm_sg; rw [if_pos (by assumption)]) (fun j j0 j1 => ?_) (fun {f} H => ?_) (σ1 103 46).toNat (j := 0) (f := 0) (by omega) (by omega) (.inr ⟨rfl, fun c c0 c1 => by omega⟩)
    · obtain ⟨x, hx, ex⟩ := jm_is_at hL j0 j1
      rw [ex]
      exact (hLv x hx).2.2
    · refine ⟨f, rfl, hz1, ?_⟩
      rw [ekr] at H
      rcases H with ⟨h1, c, c0, c1, c2⟩ | ⟨h1, h2⟩
      · obtain ⟨x, hx, ex⟩ := jm_is_at hL c0 c1
        rw [ex] at c2
        exact .inl ⟨h1, x.1, (hLv x hx).1, c2⟩
      · refine .inr ⟨h1, fun hh => ?_⟩
        obtain ⟨v, hv, g1, hs⟩ := jm_nd_pp hh
        obtain ⟨x, hx, ex⟩ := hLe v hv
        obtain ⟨c, c0, c1, ec⟩ := jm_is_of hL hx
        have := (ge_sgn (ge_e_s ex (jm_kr σ k 0)) hv.1.1 (hLv x hx).1.1.1).1
        have h3 := h2 c c0 c1
        rw [ec] at h3
        omega

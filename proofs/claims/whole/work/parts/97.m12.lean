/-! ===== the reference's body: all that is allowed ===== -/
def jm_sg (σ : jw_H) (k : Int) : Int := if σ 105 (5 * k + 4) = 1 then -1 else 1
/-- a keep's row, its number by so much more -/
def jm_kr (σ : jw_H) (k m : Int) : ge_R := (jm_sg σ k * σ 105 (5 * k), jm_sg σ k * σ 105 (5 * k + 1), jm_sg σ k * σ 105 (5 * k + 2), jm_sg σ k * (σ 105 (5 * k + 3) + m))
theorem jm_sg_1 (σ : jw_H) (k : Int) : jm_sg σ k = -1 ∨ jm_sg σ k = 1 := by
  unfold jm_sg
  split
  · exact .inl rfl
  · exact .inr rfl
theorem jm_kr_ok {σ : jw_H} {k m : Int} (hP : jm_Pb σ) (k0 : 0 ≤ k) (k1 : k < σ 103 5) (m0 : 0 ≤ m) (m1 : m ≤ 1) : ge_sm (jm_kr σ k m) ∧ (-100 ≤ (jm_kr σ k m).2.2.2 ∧ (jm_kr σ k m).2.2.2 ≤ 100) ∧ (σ 103 3 ≤ 2 → (jm_kr σ k m).2.2.1 = 0) ∧ (σ 103 3 ≤ 1 → (jm_kr σ k m).2.1 = 0) := by
  obtain ⟨-, -, -, hK, -, -⟩ := hP
  obtain ⟨c, ⟨n0, n1⟩, -⟩ := hK k k0 k1
  have c0 := c 0 (by omega) (by omega)
  have c1 := c 1 (by omega) (by omega)
  have c2 := c 2 (by omega) (by omega)
  rw [Int.add_zero] at c0
  simp only [ge_sm, jm_kr]
  rcases jm_sg_1 σ k with h | h <;> rw [h] <;> omega
theorem jm_mulb {u w : Int} (u0 : -100 ≤ u) (u1 : u ≤ 100) (w0 : 0 ≤ w) (w1 : w ≤ 162) : -16200 ≤ u * w ∧ u * w ≤ 16200 := by
  have h1 := Int.mul_le_mul_of_nonneg_right u1 w0
  have h2 := Int.mul_le_mul_of_nonneg_right u0 w0
  omega
theorem jm_side_bd {r v : ge_R} (hr : ge_sm r) (u0 : -100 ≤ r.2.2.2) (u1 : r.2.2.2 ≤ 100) (hv : jm_in4 1458 v) (hw : v.2.2.2 ≤ 162) : -30000 ≤ ge_s r v ∧ ge_s r v ≤ 30000 := by
  obtain ⟨⟨x0, x1⟩, ⟨y0, y1⟩, ⟨z0, z1⟩, ⟨w0, w1⟩⟩ := hv
  obtain ⟨a0, a1, b0, b1, c0, c1⟩ := hr
  have h1 := ge_m3 a0 a1 (x := v.1) (k := 1458) (by omega) x1
  have h2 := ge_m3 b0 b1 (x := v.2.1) (k := 1458) (by omega) y1
  have h3 := ge_m3 c0 c1 (x := v.2.2.1) (k := 1458) (by omega) z1
  have h4 := jm_mulb u0 u1 (show 0 ≤ v.2.2.2 by omega) hw
  simp only [ge_s]
  omega
theorem jm_cutsK {n : Nat} {σ : jw_H} {β : List (Nat × ge_R)} {L : List (ge_R × Int)} {k m s : Int} (hP : jm_Pb σ) (H : jm_body σ β L) (hb : jm_bnd σ β) (k0 : 0 ≤ k) (k1 : k < σ 103 5) (hf : ∀ r, (k.toNat, r) ∉ β) (hlen : (jm_RR (σ 103 3) β).length ≤ 13) (m0 : 0 ≤ m) (m1 : m ≤ 1) (hs : jm_sg σ k = s) : jw_T (js_S n) 4 240 [.inr (.inr 103), .inl k, .inr (.inl (s * (σ 105 (5 * k + 3) + m)))] (jm_ln σ k (s * σ 105 (5 * k)) (s * σ 105 (5 * k + 1)) (s * σ 105 (5 * k + 2))) (fun r σ2 => r = none ∧ jm_fr2 σ σ2 ∧ ∃ L', jm_body σ2 ((k.toNat, jm_kr σ k m) :: β) L') := by
  obtain ⟨o1, ⟨o2, o3⟩, o4, o5⟩ := jm_kr_ok hP k0 k1 m0 m1
  have hk4 := hP.2.2.1
  subst hs
  have fr1 := jm_fr2_ln σ k (jm_sg σ k * σ 105 (5 * k)) (jm_sg σ k * σ 105 (5 * k + 1)) (jm_sg σ k * σ 105 (5 * k + 2))
  have hP1 := jm_fr2_Pb fr1 hP
  have erw : jm_rw (jm_ln σ k (jm_sg σ k * σ 105 (5 * k)) (jm_sg σ k * σ 105 (5 * k + 1)) (jm_sg σ k * σ 105 (5 * k + 2))) k (jm_sg σ k * (σ 105 (5 * k + 3) + m)) = jm_kr σ k m := by
    have e := jm_ln_N σ k (jm_sg σ k * σ 105 (5 * k)) (jm_sg σ k * σ 105 (5 * k + 1)) (jm_sg σ k * σ 105 (5 * k + 2)) k
    rw [if_pos rfl] at e
    simp only [jm_N, Prod.mk.injEq] at e
    simp only [jm_rw, jm_kr, e.1, e.2.1, e.2.2]
  have hH := jm_body_ln (a := jm_sg σ k * σ 105 (5 * k)) (b := jm_sg σ k * σ 105 (5 * k + 1)) (c := jm_sg σ k * σ 105 (5 * k + 2)) H k0 hf ⟨o1.1, o1.2.1⟩ ⟨o1.2.2.1, o1.2.2.2.1⟩ ⟨o1.2.2.2.2.1, o1.2.2.2.2.2⟩
  have e3 := fr1.2 3 (by omega)
  generalize jm_ln σ k (jm_sg σ k * σ 105 (5 * k)) (jm_sg σ k * σ 105 (5 * k + 1)) (jm_sg σ k * σ 105 (5 * k + 2)) = σ1 at *
  have hb1 : jm_bnd σ1 β := by
    refine ⟨hb.1, ?_⟩
    have e6 : jm_Bs σ1 = jm_Bs σ := by
      funext i
      unfold jm_Bs
      rw [fr1.1 106 (by omega) (by omega)]
    rw [fr1.2 3 (by omega), fr1.2 5 (by omega), e6]
    exact hb.2
  have hb2 : jm_bnd σ1 ((k.toNat, jm_kr σ k m) :: β) := ⟨fun b r hr => by
    rcases List.mem_cons.mp hr with hr | hr
    · cases hr
      exact o1
    · exact hb1.1 b r hr, fun z hz => List.mem_cons_of_mem _ (hb1.2 z hz)⟩
  refine jw_T_mono (jm_cut_body (S := 30000) (X := 1458) (b := k) (u := jm_sg σ k * (σ 105 (5 * k + 3) + m)) hP1.1.1 hP1.1.2 hH k0 (by omega) hf (by rw [erw, e3]; exact ⟨o4, o5⟩) (by rw [e3]; omega) (by omega) (by omega) (by omega) (by omega) (fun v hv hg => ?_) (fun v hv hg => ?_)) (Nat.le_refl _) ?_
  · obtain ⟨i1, i2, -⟩ := jm_V_bd hP1 hb1 hv hg
    rw [erw]
    exact ⟨i1, jm_side_bd o1 o2 o3 i1 i2⟩
  · rw [erw] at hv
    exact (jm_V_bd hP1 hb2 hv hg).1
  · rintro r σ2 ⟨rfl, hfr, hL'⟩
    rw [erw] at hL'
    exact ⟨rfl, jm_fr2_tr fr1 (jm_fr_2 hfr), hL'⟩
theorem jm_cutsKeep {n : Nat} {σ : jw_H} {β : List (Nat × ge_R)} {L : List (ge_R × Int)} {k m : Int} (hP : jm_Pb σ) (H : jm_body σ β L) (hb : jm_bnd σ β) (k0 : 0 ≤ k) (k1 : k < σ 103 5) (hf : ∀ r, (k.toNat, r) ∉ β) (hlen : (jm_RR (σ 103 3) β).length ≤ 13) (m0 : 0 ≤ m) (m1 : m ≤ 1) : jw_T (js_S n) 5 241 [.inr (.inr 103), .inl k, .inl m] σ (fun r σ' => r = none ∧ jm_fr2 σ σ' ∧ ∃ L', jm_body σ' ((k.toNat, jm_kr σ k m) :: β) L') := by
  refine jw_T_of (D := 4) (M := mm_241) rfl (Nat.le_of_ble_eq_true rfl) (ls0 := [some (.inr (.inr 103)), some (.inl k), some (.inl m), none]) rfl ?_ (by rintro _ _ ⟨rfl, -⟩; rfl)
  obtain ⟨⟨pq1, pq2⟩, -, ⟨pk1, pk2⟩, hPk, -, -⟩ := id hP
  obtain ⟨c, ⟨n0, n1⟩, ⟨t0, t1⟩⟩ := hPk k k0 k1
  have c0 := c 0 (by omega) (by omega)
  have c1 := c 1 (by omega) (by omega)
  have c2 := c 2 (by omega) (by omega)
  rw [Int.add_zero] at c0
  refine jw_W_n 1 (i' := 1) (ls' := [some (.inr (.inr 103)), some (.inl k), some (.inl m), none]) (st' := [.inr (.inr 103)]) rfl ?_
  refine jw_W_gf rfl rfl rfl ?_
  show jw_W (js_S n) _ md_241 2 [some (.inr (.inr 103)), some (.inl k), some (.inl m), none] [.inr (.inr 105)] σ _
  refine jw_W_n 5 (i' := 7) (ls' := [some (.inr (.inr 103)), some (.inl k), some (.inl m), none]) (st' := [.inl ((5 * k) + 4), .inr (.inr 105)]) rfl ?_
  refine jw_W_ia rfl rfl (by omega) (by omega) (by omega) ?_
  show jw_W (js_S n) _ md_241 8 [some (.inr (.inr 103)), some (.inl k), some (.inl m), none] [.inl (σ 105 ((5 * k) + 4))] σ _
  refine jw_W_n 1 (i' := 9) (ls' := [some (.inr (.inr 103)), some (.inl k), some (.inl m), none]) (st' := [.inl 1, .inl (σ 105 ((5 * k) + 4))]) rfl ?_
  refine jw_W_ic rfl (by unfold jw_rg; omega) (by unfold jw_rg; omega) (fun hc1 => ?_) (fun hc1 => ?_)
  · have hc1 : (σ 105 ((5 * k) + 4)) ≠ 1 := hc1
    refine jw_W_n 6 (i' := 18) (ls' := [some (.inr (.inr 103)), some (.inl k), some (.inl m), some (.inl 1)]) (st' := [.inr (.inr 103), .inl 1, .inl k, .inr (.inr 103)]) rfl ?_
    refine jw_W_gf rfl rfl rfl ?_
    show jw_W (js_S n) _ md_241 19 [some (.inr (.inr 103)), some (.inl k), some (.inl m), some (.inl 1)] [.inr (.inr 105), .inl 1, .inl k, .inr (.inr 103)] σ _
    refine jw_W_n 3 (i' := 22) (ls' := [some (.inr (.inr 103)), some (.inl k), some (.inl m), some (.inl 1)]) (st' := [.inl (5 * k), .inr (.inr 105), .inl 1, .inl k, .inr (.inr 103)]) rfl ?_
    refine jw_W_ia rfl rfl (by omega) (by omega) (by omega) ?_
    show jw_W (js_S n) _ md_241 23 [some (.inr (.inr 103)), some (.inl k), some (.inl m), some (.inl 1)] [.inl (σ 105 (5 * k)), .inl 1, .inl k, .inr (.inr 103)] σ _
    refine jw_W_n 3 (i' := 26) (ls' := [some (.inr (.inr 103)), some (.inl k), some (.inl m), some (.inl 1)]) (st' := [.inr (.inr 103), .inl 1, .inl (1 * (σ 105 (5 * k))), .inl k, .inr (.inr 103)]) rfl ?_
    refine jw_W_gf rfl rfl rfl ?_
    show jw_W (js_S n) _ md_241 27 [some (.inr (.inr 103)), some (.inl k), some (.inl m), some (.inl 1)] [.inr (.inr 105), .inl 1, .inl (1 * (σ 105 (5 * k))), .inl k, .inr (.inr 103)] σ _
    refine jw_W_n 5 (i' := 32) (ls' := [some (.inr (.inr 103)), some (.inl k), some (.inl m), some (.inl 1)]) (st' := [.inl ((5 * k) + 1), .inr (.inr 105), .inl 1, .inl (1 * (σ 105 (5 * k))), .inl k, .inr (.inr 103)]) rfl ?_
    refine jw_W_ia rfl rfl (by omega) (by omega) (by omega) ?_
    show jw_W (js_S n) _ md_241 33 [some (.inr (.inr 103)), some (.inl k), some (.inl m), some (.inl 1)] [.inl (σ 105 ((5 * k) + 1)), .inl 1, .inl (1 * (σ 105 (5 * k))), .inl k, .inr (.inr 103)] σ _
    refine jw_W_n 3 (i' := 36) (ls' := [some (.inr (.inr 103)), some (.inl k), some (.inl m), some (.inl 1)]) (st' := [.inr (.inr 103), .inl 1, .inl (1 * (σ 105 ((5 * k) + 1))), .inl (1 * (σ 105 (5 * k))), .inl k, .inr (.inr 103)]) rfl ?_
    refine jw_W_gf rfl rfl rfl ?_
    show jw_W (js_S n) _ md_241 37 [some (.inr (.inr 103)), some (.inl k), some (.inl m), some (.inl 1)] [.inr (.inr 105), .inl 1, .inl (1 * (σ 105 ((5 * k) + 1))), .inl (1 * (σ 105 (5 * k))), .inl k, .inr (.inr 103)] σ _
    refine jw_W_n 5 (i' := 42) (ls' := [some (.inr (.inr 103)), some (.inl k), some (.inl m), some (.inl 1)]) (st' := [.inl ((5 * k) + 2), .inr (.inr 105), .inl 1, .inl (1 * (σ 105 ((5 * k) + 1))), .inl (1 * (σ 105 (5 * k))), .inl k, .inr (.inr 103)]) rfl ?_
    refine jw_W_ia rfl rfl (by omega) (by omega) (by omega) ?_
    show jw_W (js_S n) _ md_241 43 [some (.inr (.inr 103)), some (.inl k), some (.inl m), some (.inl 1)] [.inl (σ 105 ((5 * k) + 2)), .inl 1, .inl (1 * (σ 105 ((5 * k) + 1))), .inl (1 * (σ 105 (5 * k))), .inl k, .inr (.inr 103)] σ _
    refine jw_W_n 1 (i' := 44) (ls' := [some (.inr (.inr 103)), some (.inl k), some (.inl m), some (.inl 1)]) (st' := [.inl (1 * (σ 105 ((5 * k) + 2))), .inl (1 * (σ 105 ((5 * k) + 1))), .inl (1 * (σ 105 (5 * k))), .inl k, .inr (.inr 103)]) rfl ?_
    refine jw_W_call (as := [.inr (.inr 103), .inl k, .inl (1 * (σ 105 (5 * k))), .inl (1 * (σ 105 ((5 * k) + 1))), .inl (1 * (σ 105 ((5 * k) + 2)))]) (rest := []) rfl rfl rfl rfl (Nat.le_of_ble_eq_true rfl) (.inr rfl) (jm_laysNormal (by omega) (by omega)) (by omega) ?_ rfl
    rintro r1 σ1 ⟨rfl, rfl⟩
    show jw_W (js_S n) _ md_241 45 [some (.inr (.inr 103)), some (.inl k), some (.inl m), some (.inl 1)] [] ((jw_up (jw_up (jw_up σ 131 (3 * k) (1 * (σ 105 (5 * k)))) 131 (3 * k + 1) (1 * (σ 105 ((5 * k) + 1)))) 131 (3 * k + 2) (1 * (σ 105 ((5 * k) + 2))))) _
    refine jw_W_n 4 (i' := 49) (ls' := [some (.inr (.inr 103)), some (.inl k), some (.inl m), some (.inl 1)]) (st' := [.inr (.inr 103), .inl 1, .inl k, .inr (.inr 103)]) rfl ?_
    refine jw_W_gf rfl rfl rfl ?_
    show jw_W (js_S n) _ md_241 50 [some (.inr (.inr 103)), some (.inl k), some (.inl m), some (.inl 1)] [.inr (.inr 105), .inl 1, .inl k, .inr (.inr 103)] ((jw_up (jw_up (jw_up σ 131 (3 * k) (1 * (σ 105 (5 * k)))) 131 (3 * k + 1) (1 * (σ 105 ((5 * k) + 1)))) 131 (3 * k + 2) (1 * (σ 105 ((5 * k) + 2))))) _
    refine jw_W_n 5 (i' := 55) (ls' := [some (.inr (.inr 103)), some (.inl k), some (.inl m), some (.inl 1)]) (st' := [.inl ((5 * k) + 3), .inr (.inr 105), .inl 1, .inl k, .inr (.inr 103)]) rfl ?_
    refine jw_W_ia rfl rfl (by omega) (by omega) (by omega) ?_
    show jw_W (js_S n) _ md_241 56 [some (.inr (.inr 103)), some (.inl k), some (.inl m), some (.inl 1)] [.inl (σ 105 ((5 * k) + 3)), .inl 1, .inl k, .inr (.inr 103)] ((jw_up (jw_up (jw_up σ 131 (3 * k) (1 * (σ 105 (5 * k)))) 131 (3 * k + 1) (1 * (σ 105 ((5 * k) + 1)))) 131 (3 * k + 2) (1 * (σ 105 ((5 * k) + 2))))) _
    refine jw_W_n 3 (i' := 59) (ls' := [some (.inr (.inr 103)), some (.inl k), some (.inl m), some (.inl 1)]) (st' := [.inl (1 * ((σ 105 ((5 * k) + 3)) + m)), .inl k, .inr (.inr 103)]) rfl ?_
    refine jw_W_i2l rfl (by unfold jw_rg; omega) ?_
    refine jw_W_call (as := [.inr (.inr 103), .inl k, .inr (.inl (1 * ((σ 105 ((5 * k) + 3)) + m)))]) (rest := []) rfl rfl rfl rfl (Nat.le_of_ble_eq_true rfl) (.inr rfl) (jm_cutsK (s := 1) hP H hb k0 k1 hf hlen m0 m1 (by unfold jm_sg; first | rw [if_pos (by assumption)] | rw [if_neg (by assumption)])) (by omega) ?_ rfl
    rintro r1 σ1 ⟨rfl, hfr, hL'⟩
    show jw_W (js_S n) _ md_241 61 [some (.inr (.inr 103)), some (.inl k), some (.inl m), some (.inl 1)] [] σ1 _
    refine jw_W_re rfl ?_
    exact ⟨rfl, hfr, hL'⟩
  · have hc1 : (σ 105 ((5 * k) + 4)) = 1 := Classical.not_not.mp hc1
    refine jw_W_n 7 (i' := 18) (ls' := [some (.inr (.inr 103)), some (.inl k), some (.inl m), some (.inl ((-1)))]) (st' := [.inr (.inr 103), .inl ((-1)), .inl k, .inr (.inr 103)]) rfl ?_
    refine jw_W_gf rfl rfl rfl ?_
    show jw_W (js_S n) _ md_241 19 [some (.inr (.inr 103)), some (.inl k), some (.inl m), some (.inl ((-1)))] [.inr (.inr 105), .inl ((-1)), .inl k, .inr (.inr 103)] σ _
    refine jw_W_n 3 (i' := 22) (ls' := [some (.inr (.inr 103)), some (.inl k), some (.inl m), some (.inl ((-1)))]) (st' := [.inl (5 * k), .inr (.inr 105), .inl ((-1)), .inl k, .inr (.inr 103)]) rfl ?_
    refine jw_W_ia rfl rfl (by omega) (by omega) (by omega) ?_
    show jw_W (js_S n) _ md_241 23 [some (.inr (.inr 103)), some (.inl k), some (.inl m), some (.inl ((-1)))] [.inl (σ 105 (5 * k)), .inl ((-1)), .inl k, .inr (.inr 103)] σ _
    refine jw_W_n 3 (i' := 26) (ls' := [some (.inr (.inr 103)), some (.inl k), some (.inl m), some (.inl ((-1)))]) (st' := [.inr (.inr 103), .inl ((-1)), .inl ((-1) * (σ 105 (5 * k))), .inl k, .inr (.inr 103)]) rfl ?_
    refine jw_W_gf rfl rfl rfl ?_
    show jw_W (js_S n) _ md_241 27 [some (.inr (.inr 103)), some (.inl k), some (.inl m), some (.inl ((-1)))] [.inr (.inr 105), .inl ((-1)), .inl ((-1) * (σ 105 (5 * k))), .inl k, .inr (.inr 103)] σ _
    refine jw_W_n 5 (i' := 32) (ls' := [some (.inr (.inr 103)), some (.inl k), some (.inl m), some (.inl ((-1)))]) (st' := [.inl ((5 * k) + 1), .inr (.inr 105), .inl ((-1)), .inl ((-1) * (σ 105 (5 * k))), .inl k, .inr (.inr 103)]) rfl ?_
    refine jw_W_ia rfl rfl (by omega) (by omega) (by omega) ?_
    show jw_W (js_S n) _ md_241 33 [some (.inr (.inr 103)), some (.inl k), some (.inl m), some (.inl ((-1)))] [.inl (σ 105 ((5 * k) + 1)), .inl ((-1)), .inl ((-1) * (σ 105 (5 * k))), .inl k, .inr (.inr 103)] σ _
    refine jw_W_n 3 (i' := 36) (ls' := [some (.inr (.inr 103)), some (.inl k), some (.inl m), some (.inl ((-1)))]) (st' := [.inr (.inr 103), .inl ((-1)), .inl ((-1) * (σ 105 ((5 * k) + 1))), .inl ((-1) * (σ 105 (5 * k))), .inl k, .inr (.inr 103)]) rfl ?_
    refine jw_W_gf rfl rfl rfl ?_
    show jw_W (js_S n) _ md_241 37 [some (.inr (.inr 103)), some (.inl k), some (.inl m), some (.inl ((-1)))] [.inr (.inr 105), .inl ((-1)), .inl ((-1) * (σ 105 ((5 * k) + 1))), .inl ((-1) * (σ 105 (5 * k))), .inl k, .inr (.inr 103)] σ _
    refine jw_W_n 5 (i' := 42) (ls' := [some (.inr (.inr 103)), some (.inl k), some (.inl m), some (.inl ((-1)))]) (st' := [.inl ((5 * k) + 2), .inr (.inr 105), .inl ((-1)), .inl ((-1) * (σ 105 ((5 * k) + 1))), .inl ((-1) * (σ 105 (5 * k))), .inl k, .inr (.inr 103)]) rfl ?_
    refine jw_W_ia rfl rfl (by omega) (by omega) (by omega) ?_
    show jw_W (js_S n) _ md_241 43 [some (.inr (.inr 103)), some (.inl k), some (.inl m), some (.inl ((-1)))] [.inl (σ 105 ((5 * k) + 2)), .inl ((-1)), .inl ((-1) * (σ 105 ((5 * k) + 1))), .inl ((-1) * (σ 105 (5 * k))), .inl k, .inr (.inr 103)] σ _
    refine jw_W_n 1 (i' := 44) (ls' := [some (.inr (.inr 103)), some (.inl k), some (.inl m), some (.inl ((-1)))]) (st' := [.inl ((-1) * (σ 105 ((5 * k) + 2))), .inl ((-1) * (σ 105 ((5 * k) + 1))), .inl ((-1) * (σ 105 (5 * k))), .inl k, .inr (.inr 103)]) rfl ?_
    refine jw_W_call (as := [.inr (.inr 103), .inl k, .inl ((-1) * (σ 105 (5 * k))), .inl ((-1) * (σ 105 ((5 * k) + 1))), .inl ((-1) * (σ 105 ((5 * k) + 2)))]) (rest := []) rfl rfl rfl rfl (Nat.le_of_ble_eq_true rfl) (.inr rfl) (jm_laysNormal (by omega) (by omega)) (by omega) ?_ rfl
    rintro r1 σ1 ⟨rfl, rfl⟩
    show jw_W (js_S n) _ md_241 45 [some (.inr (.inr 103)), some (.inl k), some (.inl m), some (.inl ((-1)))] [] ((jw_up (jw_up (jw_up σ 131 (3 * k) ((-1) * (σ 105 (5 * k)))) 131 (3 * k + 1) ((-1) * (σ 105 ((5 * k) + 1)))) 131 (3 * k + 2) ((-1) * (σ 105 ((5 * k) + 2))))) _
    refine jw_W_n 4 (i' := 49) (ls' := [some (.inr (.inr 103)), some (.inl k), some (.inl m), some (.inl ((-1)))]) (st' := [.inr (.inr 103), .inl ((-1)), .inl k, .inr (.inr 103)]) rfl ?_
    refine jw_W_gf rfl rfl rfl ?_
    show jw_W (js_S n) _ md_241 50 [some (.inr (.inr 103)), some (.inl k), some (.inl m), some (.inl ((-1)))] [.inr (.inr 105), .inl ((-1)), .inl k, .inr (.inr 103)] ((jw_up (jw_up (jw_up σ 131 (3 * k) ((-1) * (σ 105 (5 * k)))) 131 (3 * k + 1) ((-1) * (σ 105 ((5 * k) + 1)))) 131 (3 * k + 2) ((-1) * (σ 105 ((5 * k) + 2))))) _
    refine jw_W_n 5 (i' := 55) (ls' := [some (.inr (.inr 103)), some (.inl k), some (.inl m), some (.inl ((-1)))]) (st' := [.inl ((5 * k) + 3), .inr (.inr 105), .inl ((-1)), .inl k, .inr (.inr 103)]) rfl ?_
    refine jw_W_ia rfl rfl (by omega) (by omega) (by omega) ?_
    show jw_W (js_S n) _ md_241 56 [some (.inr (.inr 103)), some (.inl k), some (.inl m), some (.inl ((-1)))] [.inl (σ 105 ((5 * k) + 3)), .inl ((-1)), .inl k, .inr (.inr 103)] ((jw_up (jw_up (jw_up σ 131 (3 * k) ((-1) * (σ 105 (5 * k)))) 131 (3 * k + 1) ((-1) * (σ 105 ((5 * k) + 1)))) 131 (3 * k + 2) ((-1) * (σ 105 ((5 * k) + 2))))) _
    refine jw_W_n 3 (i' := 59) (ls' := [some (.inr (.inr 103)), some (.inl k), some (.inl m), some (.inl ((-1)))]) (st' := [.inl ((-1) * ((σ 105 ((5 * k) + 3)) + m)), .inl k, .inr (.inr 103)]) rfl ?_
    refine jw_W_i2l rfl (by unfold jw_rg; omega) ?_
    refine jw_W_call (as := [.inr (.inr 103), .inl k, .inr (.inl ((-1) * ((σ 105 ((5 * k) + 3)) + m)))]) (rest := []) rfl rfl rfl rfl (Nat.le_of_ble_eq_true rfl) (.inr rfl) (jm_cutsK (s := (-1)) hP H hb k0 k1 hf hlen m0 m1 (by unfold jm_sg; first | rw [if_pos (by assumption)] | rw [if_neg (by assumption)])) (by omega) ?_ rfl
    rintro r1 σ1 ⟨rfl, hfr, hL'⟩
    show jw_W (js_S n) _ md_241 61 [some (.inr (.inr 103)), some (.inl k), some (.inl m), some (.inl ((-1)))] [] σ1 _
    refine jw_W_re rfl ?_
    exact ⟨rfl, hfr, hL'⟩
/-- the rows of all that is allowed, so far: without one keep, one keep's number one more -/
def jm_bk (σ : jw_H) (wo mo : Int) : Nat → List (Nat × ge_R)
  | 0 => jm_be (σ 103 5).toNat (σ 103 3).toNat (jm_Bs σ)
  | k + 1 => if (k : Int) = wo then jm_bk σ wo mo k else (k, jm_kr σ (k : Int) (if (k : Int) = mo then 1 else 0)) :: jm_bk σ wo mo k
theorem jm_bk_mem {σ : jw_H} {wo mo : Int} {b : Nat} {r : ge_R} : ∀ {k : Nat}, (b, r) ∈ jm_bk σ wo mo k ↔ (b < k ∧ (b : Int) ≠ wo ∧ r = jm_kr σ (b : Int) (if (b : Int) = mo then 1 else 0)) ∨ (b, r) ∈ jm_be (σ 103 5).toNat (σ 103 3).toNat (jm_Bs σ)
  | 0 => by
    show _ ∈ jm_be _ _ _ ↔ _
    constructor
    · exact .inr
    · rintro (⟨h, -⟩ | h)
      · omega
      · exact h
  | k + 1 => by
    have ih := jm_bk_mem (σ := σ) (wo := wo) (mo := mo) (b := b) (r := r) (k := k)
    show _ ∈ (if (k : Int) = wo then jm_bk σ wo mo k else _) ↔ _
    by_cases hw : (k : Int) = wo
    · rw [if_pos hw, ih]
      constructor
      · rintro (⟨h1, h2, h3⟩ | h)
        · exact .inl ⟨by omega, h2, h3⟩
        · exact .inr h
      · rintro (⟨h1, h2, h3⟩ | h)
        · exact .inl ⟨by omega, h2, h3⟩
        · exact .inr h
    · rw [if_neg hw, List.mem_cons, ih]
      constructor
      · rintro (h | ⟨h1, h2, h3⟩ | h)
        · cases h
          exact .inl ⟨by omega, hw, rfl⟩
        · exact .inl ⟨by omega, h2, h3⟩
        · exact .inr h
      · rintro (⟨h1, h2, h3⟩ | h)
        · by_cases hb : b = k
          · subst hb
            exact .inl (by rw [h3])
          · exact .inr (.inl ⟨by omega, h2, h3⟩)
        · exact .inr (.inr h)
theorem jm_bk_len {σ : jw_H} {wo mo : Int} (q1 : 1 ≤ σ 103 3) (q2 : σ 103 3 ≤ 3) : ∀ k : Nat, (jm_RR (σ 103 3) (jm_bk σ wo mo k)).length ≤ k + 6
  | 0 => by
    have h : σ 103 3 = 1 ∨ σ 103 3 = 2 ∨ σ 103 3 = 3 := by omega
    show (jm_RR (σ 103 3) (jm_be _ _ _)).length ≤ _
    rcases h with h | h | h <;> rw [h] <;> simp [jm_RR, jm_be, jm_vr, List.range_succ]
  | k + 1 => by
    have ih := jm_bk_len (wo := wo) (mo := mo) q1 q2 k
    show (jm_RR (σ 103 3) (if (k : Int) = wo then jm_bk σ wo mo k else _)).length ≤ _
    split
    · omega
    · rw [jm_RR_cons, List.length_cons]
      omega
theorem jm_bk_bnd {σ : jw_H} {wo mo : Int} (hP : jm_Pb σ) {k : Nat} (hk : (k : Int) ≤ σ 103 5) : jm_bnd σ (jm_bk σ wo mo k) := by
  have hq := hP.1
  refine ⟨fun b r hr => ?_, fun z hz => jm_bk_mem.mpr (.inr hz)⟩
  rcases jm_bk_mem.mp hr with ⟨h1, h2, rfl⟩ | h
  · exact (jm_kr_ok hP (by omega) (by omega) (by split <;> omega) (by split <;> omega)).1
  · exact jm_be_sm h (by omega)
theorem jm_bk_free {σ : jw_H} {wo mo : Int} (hP : jm_Pb σ) {k : Nat} (hk : (k : Int) < σ 103 5) (r : ge_R) : (k, r) ∉ jm_bk σ wo mo k := by
  intro h
  rcases jm_bk_mem.mp h with ⟨h1, -⟩ | h
  · omega
  · obtain ⟨i, hi, h⟩ := jm_be_mem.mp h
    omega
/-- the loop over the keeps, so far -/
def jm_lb (σ0 : jw_H) (wo mo : Int) (σ : jw_H) (k : Int) : Prop := jm_fr2 σ0 σ ∧ ∃ L, jm_body σ (jm_bk σ0 wo mo k.toNat) L
theorem jm_kr_fr {σ σ' : jw_H} (a : jm_fr2 σ σ') (k m : Int) : jm_kr σ' k m = jm_kr σ k m := by
  simp only [jm_kr, jm_sg, a.1 105 (by omega) (by omega)]
theorem jm_bnd_fr {σ σ' : jw_H} (a : jm_fr2 σ σ') {β : List (Nat × ge_R)} (h : jm_bnd σ β) : jm_bnd σ' β := by
  refine ⟨h.1, ?_⟩
  have e6 : jm_Bs σ' = jm_Bs σ := by
    funext i
    unfold jm_Bs
    rw [a.1 106 (by omega) (by omega)]
  rw [a.2 3 (by omega), a.2 5 (by omega), e6]
  exact h.2
theorem jm_cutsKeep2 {n : Nat} {σ0 σ : jw_H} {wo mo k m : Int} (hP : jm_Pb σ0) (H : jm_lb σ0 wo mo σ k) (k0 : 0 ≤ k) (k1 : k < σ0 103 5) (hw : ¬ k = wo) (hm : m = if k = mo then 1 else 0) : jw_T (js_S n) 5 241 [.inr (.inr 103), .inl k, .inl m] σ (fun r σ' => r = none ∧ jm_lb σ0 wo mo σ' (k + 1)) := by
  obtain ⟨fr, L, hL⟩ := H
  have hq := hP.1
  have hk := hP.2.2.1
  have ek : ((k.toNat : Nat) : Int) = k := by omega
  have e3 := fr.2 3 (by omega)
  have hlen := jm_bk_len (wo := wo) (mo := mo) hq.1 hq.2 k.toNat
  refine jw_T_mono (jm_cutsKeep (jm_fr2_Pb fr hP) hL (jm_bnd_fr fr (jm_bk_bnd hP (by omega))) k0 (by rw [fr.2 5 (by omega)]; exact k1) (jm_bk_free hP (by omega)) (by rw [e3]; omega) (by rw [hm]; split <;> omega) (by rw [hm]; split <;> omega)) (Nat.le_refl _) ?_
  rintro r σ' ⟨rfl, f2, L', hL'⟩
  refine ⟨rfl, jm_fr2_tr fr f2, L', ?_⟩
  have e1 : (k + 1).toNat = k.toNat + 1 := by omega
  rw [e1]
  show jm_body σ' (if ((k.toNat : Nat) : Int) = wo then _ else _) L'
  rw [ek, if_neg hw, ← hm, ← jm_kr_fr fr]
  exact hL'
theorem jm_lb_skip {σ0 σ : jw_H} {wo mo k : Int} (H : jm_lb σ0 wo mo σ k) (k0 : 0 ≤ k) (hw : k = wo) : jm_lb σ0 wo mo σ (k + 1) := by
  obtain ⟨fr, L, hL⟩ := H
  refine ⟨fr, L, ?_⟩
  have e1 : (k + 1).toNat = k.toNat + 1 := by omega
  rw [e1]
  show jm_body σ (if ((k.toNat : Nat) : Int) = wo then _ else _) L
  rw [Int.toNat_of_nonneg k0, if_pos hw]
  exact hL
theorem jm_laysBody_loop {n : Nat} {σ0 : jw_H} {wo mo : Int} (hP : jm_Pb σ0) (w0 : jw_rg wo) (m0 : jw_rg mo) : ∀ (f : Nat) {σ : jw_H} {k : Int}, 0 ≤ k → k + f = σ0 103 5 → jm_lb σ0 wo mo σ k → jw_W (js_S n) 5 md_242 4 [some (.inr (.inr 103)), some (.inl wo), some (.inl mo), some (.inl k)] [] σ (fun r σ' => r = none ∧ jm_lb σ0 wo mo σ' (σ0 103 5))
  | f, σ, k, k0, hk, hI => by
    have ih : ∀ {σ' : jw_H}, k < σ0 103 5 → jm_lb σ0 wo mo σ' (k + 1) → jw_W (js_S n) 5 md_242 4 [some (.inr (.inr 103)), some (.inl wo), some (.inl mo), some (.inl (k + 1))] [] σ' (fun r σ' => r = none ∧ jm_lb σ0 wo mo σ' (σ0 103 5)) := by
      intro σ' h1 h2
      match f, hk with
      | 0, hk => omega
      | f + 1, hk => exact jm_laysBody_loop hP w0 m0 f (by omega) (by omega) h2
    have hPk := hP.2.2.1
    have e5 : σ 103 5 = σ0 103 5 := hI.1.2 5 (by omega)
    unfold jw_rg at w0 m0
    refine jw_W_n 2 (i' := 6) (ls' := [some (.inr (.inr 103)), some (.inl wo), some (.inl mo), some (.inl k)]) (st' := [.inr (.inr 103), .inl k]) rfl ?_
    refine jw_W_gf rfl rfl rfl ?_
    show jw_W (js_S n) _ md_242 7 [some (.inr (.inr 103)), some (.inl wo), some (.inl mo), some (.inl k)] [.inl (σ 103 5), .inl k] σ _
    rw [e5]
    refine jw_W_ic rfl (by unfold jw_rg; omega) (by unfold jw_rg; omega) (fun hc1 => ?_) (fun hc1 => ?_)
    · have hc1 : k ≥ (σ0 103 5) := hc1
      refine jw_W_re rfl ?_
      have hkl : k = σ0 103 5 := by omega
      subst hkl
      exact ⟨rfl, hI⟩
    · have hc1 : ¬ (k ≥ (σ0 103 5)) := hc1
      refine jw_W_n 2 (i' := 10) (ls' := [some (.inr (.inr 103)), some (.inl wo), some (.inl mo), some (.inl k)]) (st' := [.inl wo, .inl k]) rfl ?_
      refine jw_W_ic rfl (by unfold jw_rg; omega) (by unfold jw_rg; omega) (fun hc2 => ?_) (fun hc2 => ?_)
      · have hc2 : k = wo := hc2
        refine jw_W_n 2 (i' := 4) (ls' := [some (.inr (.inr 103)), some (.inl wo), some (.inl mo), some (.inl (k + 1))]) (st' := []) rfl ?_
        exact ih (by omega) (jm_lb_skip hI k0 (by assumption))
      · have hc2 : ¬ (k = wo) := hc2
        refine jw_W_n 4 (i' := 15) (ls' := [some (.inr (.inr 103)), some (.inl wo), some (.inl mo), some (.inl k)]) (st' := [.inl mo, .inl k, .inl k, .inr (.inr 103)]) rfl ?_
        refine jw_W_ic rfl (by unfold jw_rg; omega) (by unfold jw_rg; omega) (fun hc3 => ?_) (fun hc3 => ?_)
        · have hc3 : k ≠ mo := hc3
          refine jw_W_n 1 (i' := 19) (ls' := [some (.inr (.inr 103)), some (.inl wo), some (.inl mo), some (.inl k)]) (st' := [.inl 0, .inl k, .inr (.inr 103)]) rfl ?_
          refine jw_W_call (as := [.inr (.inr 103), .inl k, .inl 0]) (rest := []) rfl rfl rfl rfl (Nat.le_of_ble_eq_true rfl) (.inr rfl) (jm_cutsKeep2 hP hI k0 (by omega) (by assumption) (by first | rw [if_pos (by assumption)] | rw [if_neg (by assumption)])) (by omega) ?_ rfl
          rintro r1 σ1 ⟨rfl, hI1⟩
          show jw_W (js_S n) _ md_242 20 [some (.inr (.inr 103)), some (.inl wo), some (.inl mo), some (.inl k)] [] σ1 _
          refine jw_W_n 2 (i' := 4) (ls' := [some (.inr (.inr 103)), some (.inl wo), some (.inl mo), some (.inl (k + 1))]) (st' := []) rfl ?_
          exact ih (by omega) hI1
        · have hc3 : k = mo := Classical.not_not.mp hc3
          refine jw_W_n 2 (i' := 19) (ls' := [some (.inr (.inr 103)), some (.inl wo), some (.inl mo), some (.inl k)]) (st' := [.inl 1, .inl k, .inr (.inr 103)]) rfl ?_
          refine jw_W_call (as := [.inr (.inr 103), .inl k, .inl 1]) (rest := []) rfl rfl rfl rfl (Nat.le_of_ble_eq_true rfl) (.inr rfl) (jm_cutsKeep2 hP hI k0 (by omega) (by assumption) (by first | rw [if_pos (by assumption)] | rw [if_neg (by assumption)])) (by omega) ?_ rfl
          rintro r1 σ1 ⟨rfl, hI1⟩
          show jw_W (js_S n) _ md_242 20 [some (.inr (.inr 103)), some (.inl wo), some (.inl mo), some (.inl k)] [] σ1 _
          refine jw_W_n 2 (i' := 4) (ls' := [some (.inr (.inr 103)), some (.inl wo), some (.inl mo), some (.inl (k + 1))]) (st' := []) rfl ?_
          exact ih (by omega) hI1
theorem jm_laysBody {n : Nat} {σ : jw_H} {wo mo : Int} (hP : jm_Pb σ) (hN : jm_Ns σ) (w0 : jw_rg wo) (m0 : jw_rg mo) : jw_T (js_S n) 6 242 [.inr (.inr 103), .inl wo, .inl mo] σ (fun r σ' => r = none ∧ jm_lb σ wo mo σ' (σ 103 5)) := by
  refine jw_T_of (D := 5) (M := mm_242) rfl (Nat.le_of_ble_eq_true rfl) (ls0 := [some (.inr (.inr 103)), some (.inl wo), some (.inl mo), none]) rfl ?_ (by rintro _ _ ⟨rfl, -⟩; rfl)
  refine jw_W_n 1 (i' := 1) (ls' := [some (.inr (.inr 103)), some (.inl wo), some (.inl mo), none]) (st' := [.inr (.inr 103)]) rfl ?_
  refine jw_W_call (as := [.inr (.inr 103)]) (rest := []) rfl rfl rfl rfl (Nat.le_of_ble_eq_true rfl) (.inr rfl) (jm_beginsBody hP hN) (by omega) ?_ rfl
  rintro r1 σ1 ⟨rfl, σ2, hB1, hB2⟩
  have hI := jm_box_body hP hB1 hB2
  show jw_W (js_S n) _ md_242 2 [some (.inr (.inr 103)), some (.inl wo), some (.inl mo), none] [] σ1 _
  refine jw_W_n 2 (i' := 4) (ls' := [some (.inr (.inr 103)), some (.inl wo), some (.inl mo), some (.inl 0)]) (st' := []) rfl ?_
  exact jm_laysBody_loop hP w0 m0 (σ 103 5).toNat (k := 0) (by omega) (by have := hP.2.2.1; omega) ⟨hI.1, _, hI.2⟩

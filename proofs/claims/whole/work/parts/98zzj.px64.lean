/-! ===== along: class and reference ===== -/
theorem jn_e_F {R : List ge_R} {p q : ge_R} (h : ge_e p q) (wq : 0 < q.2.2.2) (hF : ge_F R p) : ge_F R q :=
  ⟨wq, fun r hr => (ge_sgn (ge_e_s h r) wq hF.1).1.mp (hF.2 r hr)⟩
theorem jn_le_can {a b c : Int} (hc : 0 < c) (h : c * a ≤ c * b) : a ≤ b := Int.le_of_mul_le_mul_left h hc
theorem jn_e_bt {F : List ge_D} {p q v : ge_R} (h : ge_e p q) (wp : 0 < p.2.2.2) (wq : 0 < q.2.2.2) (hb : ge_bt F p v) : ge_bt F q v := by
  have key : ∀ f : ge_D, p.2.2.2 * (ge_f f v * q.2.2.2 - ge_f f q * v.2.2.2) = q.2.2.2 * (ge_f f v * p.2.2.2 - ge_f f p * v.2.2.2) := fun f => by
    have e := ge_e_f h f
    grind
  obtain ⟨h1, f, hf, h2⟩ := hb
  refine ⟨fun g hg => ?_, f, hf, ?_⟩
  · have k := key g
    have a := Int.mul_nonneg (Int.le_of_lt wq) (show 0 ≤ ge_f g v * p.2.2.2 - ge_f g p * v.2.2.2 by have := h1 g hg; omega)
    rw [← k] at a
    have := Int.nonneg_of_mul_nonneg_right (a := p.2.2.2) (by omega) wp
    omega
  · have k := key f
    have a := Int.mul_pos wq (show 0 < ge_f f v * p.2.2.2 - ge_f f p * v.2.2.2 by omega)
    rw [← k] at a
    have := Int.pos_of_mul_pos_right a wp
    omega
theorem jn_e_Ef {σ : jw_H} {p q : ge_R} (h : ge_e p q) (wp : 0 < p.2.2.2) (wq : 0 < q.2.2.2) : jm_Ef σ p ↔ jm_Ef σ q :=
  ⟨fun ⟨v, hv, hb⟩ => ⟨v, hv, jn_e_bt h wp wq hb⟩, fun ⟨v, hv, hb⟩ => ⟨v, hv, jn_e_bt (ge_e_sym h) wq wp hb⟩⟩
theorem jn_e_tau {β : List (Nat × ge_R)} {p q : ge_R} {t : Int} (h : ge_e p q) (wp : 0 < p.2.2.2) (wq : 0 < q.2.2.2) (ht : jm_tau β p t) : jm_tau β q t := by
  refine ⟨ht.1, ht.2.1, fun b hb => (ht.2.2 b hb).trans ⟨fun ⟨r, h1, h2⟩ => ⟨r, h1, (ge_sgn (ge_e_s h r) wq wp).2.mp h2⟩, fun ⟨r, h1, h2⟩ => ⟨r, h1, (ge_sgn (ge_e_s h r) wq wp).2.mpr h2⟩⟩⟩
/-- a point, each of its numbers times so much -/
def jn_sc (c : Int) (p : ge_R) : ge_R := (c * p.1, c * p.2.1, c * p.2.2.1, c * p.2.2.2)
theorem jn_sc_e (c : Int) (p : ge_R) : ge_e p (jn_sc c p) := by
  unfold ge_e jn_sc
  dsimp only
  refine ⟨?_, ?_, ?_⟩ <;> grind
/-- the point so many tenths on -/
def jn_alp (σ : jw_H) (i j t : Int) : ge_R := ((10 - t) * σ 135 j * σ 132 i + t * σ 135 i * σ 132 j, (10 - t) * σ 135 j * σ 133 i + t * σ 135 i * σ 133 j, (10 - t) * σ 135 j * σ 134 i + t * σ 135 i * σ 134 j, 10 * σ 135 i * σ 135 j)
def jn_alt (σ : jw_H) (i j t : Int) : Int := if t = 0 then σ 136 i else if t = 10 then σ 136 j else jw_and (σ 136 i) (σ 136 j)
theorem jn_al {σ : jw_H} {i j t : Int} (hP : jm_Pb σ) (hi : ge_F (jm_R σ) (jm_ct σ i)) (hj : ge_F (jm_R σ) (jm_ct σ j)) (hti : jm_tau (jm_bA σ) (jm_ct σ i) (σ 136 i)) (htj : jm_tau (jm_bA σ) (jm_ct σ j) (σ 136 j)) (t0 : 0 ≤ t) (t1 : t ≤ 10) : ge_F (jm_R σ) (jn_alp σ i j t) ∧ jm_tau (jm_bA σ) (jn_alp σ i j t) (jn_alt σ i j t) := by
  have wi : 0 < σ 135 i := hi.1
  have wj : 0 < σ 135 j := hj.1
  unfold jn_alt
  by_cases h0 : t = 0
  · have e : jn_alp σ i j t = jn_sc (10 * σ 135 j) (jm_ct σ i) := by
      unfold jn_alp jn_sc jm_ct
      rw [h0]
      simp only [Prod.mk.injEq]
      refine ⟨?_, ?_, ?_, ?_⟩ <;> grind
    have wp : 0 < (jn_sc (10 * σ 135 j) (jm_ct σ i)).2.2.2 := Int.mul_pos (by omega) wi
    rw [if_pos h0, e]
    exact ⟨jn_e_F (jn_sc_e _ _) wp hi, jn_e_tau (jn_sc_e _ _) wi wp hti⟩
  · rw [if_neg h0]
    by_cases h1 : t = 10
    · have e : jn_alp σ i j t = jn_sc (10 * σ 135 i) (jm_ct σ j) := by
        unfold jn_alp jn_sc jm_ct
        rw [h1]
        simp only [Prod.mk.injEq]
        refine ⟨?_, ?_, ?_, ?_⟩ <;> grind
      have wp : 0 < (jn_sc (10 * σ 135 i) (jm_ct σ j)).2.2.2 := Int.mul_pos (by omega) wj
      rw [if_pos h1, e]
      exact ⟨jn_e_F (jn_sc_e _ _) wp hj, jn_e_tau (jn_sc_e _ _) wj wp htj⟩
    · rw [if_neg h1]
      have c1 : 0 < (10 - t) * σ 135 j := Int.mul_pos (by omega) wj
      have c2 : 0 < t * σ 135 i := Int.mul_pos (by omega) wi
      have e : jn_alp σ i j t = jm_two (jn_sc ((10 - t) * σ 135 j) (jm_ct σ i)) (jn_sc (t * σ 135 i) (jm_ct σ j)) := by
        unfold jn_alp jn_sc jm_ct jm_two
        simp only [Prod.mk.injEq]
        refine ⟨?_, ?_, ?_, ?_⟩ <;> first | trivial | grind
      have w1 : 0 < (jn_sc ((10 - t) * σ 135 j) (jm_ct σ i)).2.2.2 := Int.mul_pos c1 wi
      have w2 : 0 < (jn_sc (t * σ 135 i) (jm_ct σ j)).2.2.2 := Int.mul_pos c2 wj
      have f1 := jn_e_F (jn_sc_e _ _) w1 hi
      have f2 := jn_e_F (jn_sc_e _ _) w2 hj
      rw [e]
      exact ⟨jm_two_F f1 f2, jx_tau_two hP f1 f2 (jn_e_tau (jn_sc_e _ _) wi w1 hti) (jn_e_tau (jn_sc_e _ _) wj w2 htj)⟩
def jn_alc (σ : jw_H) (i j t : Int) : Prop := (0 ≤ i ∧ i < σ 103 56) ∧ (0 ≤ j ∧ j < σ 103 56) ∧ 0 ≤ t ∧ t ≤ 10
/-- the answer of along -/
def jn_ala (σ : jw_H) (i j t v : Int) : Prop := (v = -1 ∧ ¬ jn_alc σ i j t) ∨ (jn_alc σ i j t ∧ ((v = 2 ∧ ¬ jm_Ef σ (jn_alp σ i j t)) ∨ (v = 1 ∧ jm_Ef σ (jn_alp σ i j t))))
theorem jn_ala_uq {σ : jw_H} {i j t u v : Int} (h1 : jn_ala σ i j t u) (h2 : jn_ala σ i j t v) : u = v := by
  rcases h1 with ⟨e1, a1⟩ | ⟨a1, ⟨e1, b1⟩ | ⟨e1, b1⟩⟩ <;> rcases h2 with ⟨e2, a2⟩ | ⟨a2, ⟨e2, b2⟩ | ⟨e2, b2⟩⟩ <;> first | exact e1.trans e2.symm | exact absurd a1 a2 | exact absurd a2 a1 | exact absurd b1 b2 | exact absurd b2 b1
theorem jn_ala_me {σ0 σ : jw_H} (h : jx_me σ0 σ) (hP : jm_Pb σ0) (i j t v : Int) : jn_ala σ i j t v ↔ jn_ala σ0 i j t v := by
  have e : jn_alp σ i j t = jn_alp σ0 i j t := by
    unfold jn_alp
    rw [h 132 (by omega), h 133 (by omega), h 134 (by omega), h 135 (by omega)]
  unfold jn_ala jn_alc
  rw [e, jx_pq_Ef (jx_me_pq h) hP, h 103 (by omega)]
theorem jx_along {n : Nat} {σ : jw_H} {o : Nat} {C : List (ge_R × Int)} (hK : jx_K n o C σ) {i j t : Int} (hi : jw_rg i) (hj : jw_rg j) (ht : jw_rg t) : jw_T (js_S n) 8 147 [.inr (.inr 13), .inl i, .inl j, .inl t] σ (fun r σ' => ∃ v, r = some (.inl v) ∧ jx_fy σ σ' ∧ jn_ala σ i j t v) := by
  refine jw_T_of (D := 7) (M := mm_147) rfl (Nat.le_of_ble_eq_true rfl) (ls0 := [some (.inr (.inr 13)), some (.inl i), some (.inl j), some (.inl t), none]) rfl ?_ (by rintro _ _ ⟨_, rfl, -⟩; rfl)
  have hI := hK.1
  obtain ⟨hto, hfo, hp, hP, e0, e1, e2, hPm, hcb, c0, p0, -⟩ := jx_I0_x hI
  have ho := hp.1
  have hq := hP.1
  have hw := hP.2.1
  have hq2 := hP.2.2.1
  have hcn := hcb.1
  have rhi := hi
  unfold jw_rg at rhi
  have rhj := hj
  unfold jw_rg at rhj
  have rht := ht
  unfold jw_rg at rht
  refine jw_W_n 2 (i' := 2) (ls' := [some (.inr (.inr 13)), some (.inl i), some (.inl j), some (.inl t), none]) (st' := [.inl i, .inr (.inr 13)]) rfl ?_
  refine jw_W_call (as := [.inr (.inr 13), .inl i]) (rest := []) rfl rfl rfl rfl (Nat.le_of_ble_eq_true rfl) (.inr rfl) (jx_isCorner hK hi) (by omega) ?_ rfl
  rintro r1 σz (⟨rfl, hs, q1⟩ | ⟨rfl, hs, q1⟩)
  · rw [hs]
    show jw_W (js_S n) _ md_147 3 [some (.inr (.inr 13)), some (.inl i), some (.inl j), some (.inl t), none] [.inl 1] σ _
    refine jw_W_if rfl (by unfold jw_rg; omega) (fun hc1 => ?_) (fun hc1 => ?_)
    · exact absurd hc1 (show ¬ ((1 : Int) = 0) by omega)
    · clear hc1
      refine jw_W_n 2 (i' := 6) (ls' := [some (.inr (.inr 13)), some (.inl i), some (.inl j), some (.inl t), none]) (st' := [.inl j, .inr (.inr 13)]) rfl ?_
      refine jw_W_call (as := [.inr (.inr 13), .inl j]) (rest := []) rfl rfl rfl rfl (Nat.le_of_ble_eq_true rfl) (.inr rfl) (jx_isCorner hK hj) (by omega) ?_ rfl
      rintro r1 σz (⟨rfl, hs, q2⟩ | ⟨rfl, hs, q2⟩)
      · rw [hs]
        show jw_W (js_S n) _ md_147 7 [some (.inr (.inr 13)), some (.inl i), some (.inl j), some (.inl t), none] [.inl 1] σ _
        refine jw_W_if rfl (by unfold jw_rg; omega) (fun hc2 => ?_) (fun hc2 => ?_)
        · exact absurd hc2 (show ¬ ((1 : Int) = 0) by omega)
        · clear hc2
          refine jw_W_n 1 (i' := 9) (ls' := [some (.inr (.inr 13)), some (.inl i), some (.inl j), some (.inl t), none]) (st' := [.inl t]) rfl ?_
          refine jw_W_if rfl (by unfold jw_rg; omega) (fun hc3 => ?_) (fun hc3 => ?_)
          · have hc3 : t < 0 := hc3
            refine jw_W_n 1 (i' := 14) (ls' := [some (.inr (.inr 13)), some (.inl i), some (.inl j), some (.inl t), none]) (st' := [.inl ((-1))]) rfl ?_
            refine jw_W_ir rfl ?_
            exact ⟨_, rfl, jx_fy_rf σ, .inl ⟨rfl, fun hh => by unfold jn_alc at hh; omega⟩⟩
          · have hc3 : ¬ (t < 0) := hc3
            refine jw_W_n 2 (i' := 12) (ls' := [some (.inr (.inr 13)), some (.inl i), some (.inl j), some (.inl t), none]) (st' := [.inl 10, .inl t]) rfl ?_
            refine jw_W_ic rfl (by unfold jw_rg; omega) (by unfold jw_rg; omega) (fun hc4 => ?_) (fun hc4 => ?_)
            · have hc4 : t ≤ 10 := hc4
              obtain ⟨-, ti, vi, -, tui, -⟩ := jx_I0_c hI (i := i) (by omega) (by omega)
              obtain ⟨-, tj, vj, -, tuj, -⟩ := jx_I0_c hI (i := j) (by omega) (by omega)
              obtain ⟨hF, htau⟩ := jn_al hPm vi.1 vj.1 tui tuj (t := t) (by omega) (by omega)
              refine jw_W_n 1 (i' := 16) (ls' := [some (.inr (.inr 13)), some (.inl i), some (.inl j), some (.inl t), none]) (st' := [.inr (.inr 13)]) rfl ?_
              refine jw_W_gf rfl rfl rfl ?_
              show jw_W (js_S n) _ md_147 17 [some (.inr (.inr 13)), some (.inl i), some (.inl j), some (.inl t), none] [.inr (.inr 57)] σ _
              refine jw_W_gf rfl rfl rfl ?_
              show jw_W (js_S n) _ md_147 18 [some (.inr (.inr 13)), some (.inl i), some (.inl j), some (.inl t), none] [.inr (.inr 63)] σ _
              refine jw_W_n 1 (i' := 19) (ls' := [some (.inr (.inr 13)), some (.inl i), some (.inl j), some (.inl t), none]) (st' := [.inl i, .inr (.inr 63)]) rfl ?_
              refine jw_W_ia rfl rfl (by omega) (by omega) (by omega) ?_
              show jw_W (js_S n) _ md_147 20 [some (.inr (.inr 13)), some (.inl i), some (.inl j), some (.inl t), none] [.inl (σ 63 i)] σ _
              refine jw_W_n 1 (i' := 21) (ls' := [some (.inr (.inr 13)), some (.inl i), some (.inl j), some (.inl t), none]) (st' := [.inr (.inr 13), .inl (σ 63 i)]) rfl ?_
              refine jw_W_gf rfl rfl rfl ?_
              show jw_W (js_S n) _ md_147 22 [some (.inr (.inr 13)), some (.inl i), some (.inl j), some (.inl t), none] [.inr (.inr 57), .inl (σ 63 i)] σ _
              refine jw_W_gf rfl rfl rfl ?_
              show jw_W (js_S n) _ md_147 23 [some (.inr (.inr 13)), some (.inl i), some (.inl j), some (.inl t), none] [.inr (.inr 63), .inl (σ 63 i)] σ _
              refine jw_W_n 1 (i' := 24) (ls' := [some (.inr (.inr 13)), some (.inl i), some (.inl j), some (.inl t), none]) (st' := [.inl j, .inr (.inr 63), .inl (σ 63 i)]) rfl ?_
              refine jw_W_ia rfl rfl (by omega) (by omega) (by omega) ?_
              show jw_W (js_S n) _ md_147 25 [some (.inr (.inr 13)), some (.inl i), some (.inl j), some (.inl t), none] [.inl (σ 63 j), .inl (σ 63 i)] σ _
              refine jw_W_n 3 (i' := 28) (ls' := [some (.inr (.inr 13)), some (.inl i), some (.inl j), some (.inl t), some (.inl (jw_and (σ 63 i) (σ 63 j)))]) (st' := [.inl t]) rfl ?_
              refine jw_W_if rfl (by unfold jw_rg; omega) (fun hc5 => ?_) (fun hc5 => ?_)
              · have hc5 : t ≠ 0 := hc5
                refine jw_W_n 2 (i' := 38) (ls' := [some (.inr (.inr 13)), some (.inl i), some (.inl j), some (.inl t), some (.inl (jw_and (σ 63 i) (σ 63 j)))]) (st' := [.inl 10, .inl t]) rfl ?_
                refine jw_W_ic rfl (by unfold jw_rg; omega) (by unfold jw_rg; omega) (fun hc6 => ?_) (fun hc6 => ?_)
                · have hc6 : t ≠ 10 := hc6
                  have eal : jw_and (σ 63 i) (σ 63 j) = jn_alt σ i j t := by unfold jn_alt; rw [if_neg (by omega), if_neg (by omega)]; rw [ti, tj]
                  rw [eal]
                  refine jw_W_n 1 (i' := 46) (ls' := [some (.inr (.inr 13)), some (.inl i), some (.inl j), some (.inl t), some (.inl (jn_alt σ i j t))]) (st' := [.inr (.inr 13)]) rfl ?_
                  refine jw_W_gf rfl rfl rfl ?_
                  show jw_W (js_S n) _ md_147 47 [some (.inr (.inr 13)), some (.inl i), some (.inl j), some (.inl t), some (.inl (jn_alt σ i j t))] [.inr (.inr 57)] σ _
                  refine jw_W_n 1 (i' := 48) (ls' := [some (.inr (.inr 13)), some (.inl i), some (.inl j), some (.inl t), some (.inl (jn_alt σ i j t))]) (st' := [.inl (jn_alt σ i j t), .inr (.inr 57)]) rfl ?_
                  refine jw_W_call (as := [.inr (.inr 57), .inl (jn_alt σ i j t)]) (rest := []) rfl rfl rfl rfl (Nat.le_of_ble_eq_true rfl) (.inr rfl) (jx_isEfficientAt hfo hp hP ⟨htau.1, htau.2.1⟩) (by omega) ?_ rfl
                  rintro r1 σ1 ⟨m, v, rfl, hf, hra, hv⟩
                  have hv01 : v = 0 ∨ v = 1 := by rcases hv with ⟨e, -⟩ | ⟨e, -⟩ <;> omega
                  have hrs : jx_rs σ (jn_alp σ i j t) m := jx_rs_pq hI.1.2.2.2 hPm (jx_ra_rs (jx_Pb_M hP) (by rw [jx_pq_R hI.1.2.2.2 (by omega) (by omega)]; exact hF) (by rw [jx_pq_bA hI.1.2.2.2 (by omega) (by omega)]; exact htau) hra)
                  have hz := jx_rs_0 hrs
                  show jw_W (js_S n) _ md_147 49 [some (.inr (.inr 13)), some (.inl i), some (.inl j), some (.inl t), some (.inl (jn_alt σ i j t))] [.inl v] σ1 _
                  refine jw_W_if rfl (by unfold jw_rg; omega) (fun hc7 => ?_) (fun hc7 => ?_)
                  · have hc7 : v = 0 := hc7
                    refine jw_W_n 1 (i' := 53) (ls' := [some (.inr (.inr 13)), some (.inl i), some (.inl j), some (.inl t), some (.inl (jn_alt σ i j t))]) (st' := [.inl 1]) rfl ?_
                    refine jw_W_ir rfl ?_
                    exact ⟨_, rfl, jx_fy_q hf, .inr ⟨⟨by omega, by omega, by omega, by omega⟩, .inr ⟨rfl, Classical.not_not.mp (fun hh => (hv.resolve_left (fun hh => by omega)).2 (hz.mpr hh))⟩⟩⟩
                  · have hc7 : ¬ (v = 0) := hc7
                    refine jw_W_n 2 (i' := 53) (ls' := [some (.inr (.inr 13)), some (.inl i), some (.inl j), some (.inl t), some (.inl (jn_alt σ i j t))]) (st' := [.inl 2]) rfl ?_
                    refine jw_W_ir rfl ?_
                    exact ⟨_, rfl, jx_fy_q hf, .inr ⟨⟨by omega, by omega, by omega, by omega⟩, .inl ⟨rfl, hz.mp (hv.resolve_right (fun hh => by omega)).2⟩⟩⟩
                · have hc6 : t = 10 := Classical.not_not.mp hc6
                  refine jw_W_n 1 (i' := 40) (ls' := [some (.inr (.inr 13)), some (.inl i), some (.inl j), some (.inl t), some (.inl (jw_and (σ 63 i) (σ 63 j)))]) (st' := [.inr (.inr 13)]) rfl ?_
                  refine jw_W_gf rfl rfl rfl ?_
                  show jw_W (js_S n) _ md_147 41 [some (.inr (.inr 13)), some (.inl i), some (.inl j), some (.inl t), some (.inl (jw_and (σ 63 i) (σ 63 j)))] [.inr (.inr 57)] σ _
                  refine jw_W_gf rfl rfl rfl ?_
                  show jw_W (js_S n) _ md_147 42 [some (.inr (.inr 13)), some (.inl i), some (.inl j), some (.inl t), some (.inl (jw_and (σ 63 i) (σ 63 j)))] [.inr (.inr 63)] σ _
                  refine jw_W_n 1 (i' := 43) (ls' := [some (.inr (.inr 13)), some (.inl i), some (.inl j), some (.inl t), some (.inl (jw_and (σ 63 i) (σ 63 j)))]) (st' := [.inl j, .inr (.inr 63)]) rfl ?_
                  refine jw_W_ia rfl rfl (by omega) (by omega) (by omega) ?_
                  show jw_W (js_S n) _ md_147 44 [some (.inr (.inr 13)), some (.inl i), some (.inl j), some (.inl t), some (.inl (jw_and (σ 63 i) (σ 63 j)))] [.inl (σ 63 j)] σ _
                  refine jw_W_n 1 (i' := 45) (ls' := [some (.inr (.inr 13)), some (.inl i), some (.inl j), some (.inl t), some (.inl (σ 63 j))]) (st' := []) rfl ?_
                  have eal : σ 63 j = jn_alt σ i j t := by unfold jn_alt; rw [if_neg (by omega), if_pos (by omega)]; rw [tj]
                  rw [eal]
                  refine jw_W_n 1 (i' := 46) (ls' := [some (.inr (.inr 13)), some (.inl i), some (.inl j), some (.inl t), some (.inl (jn_alt σ i j t))]) (st' := [.inr (.inr 13)]) rfl ?_
                  refine jw_W_gf rfl rfl rfl ?_
                  show jw_W (js_S n) _ md_147 47 [some (.inr (.inr 13)), some (.inl i), some (.inl j), some (.inl t), some (.inl (jn_alt σ i j t))] [.inr (.inr 57)] σ _
                  refine jw_W_n 1 (i' := 48) (ls' := [some (.inr (.inr 13)), some (.inl i), some (.inl j), some (.inl t), some (.inl (jn_alt σ i j t))]) (st' := [.inl (jn_alt σ i j t), .inr (.inr 57)]) rfl ?_
                  refine jw_W_call (as := [.inr (.inr 57), .inl (jn_alt σ i j t)]) (rest := []) rfl rfl rfl rfl (Nat.le_of_ble_eq_true rfl) (.inr rfl) (jx_isEfficientAt hfo hp hP ⟨htau.1, htau.2.1⟩) (by omega) ?_ rfl
                  rintro r1 σ1 ⟨m, v, rfl, hf, hra, hv⟩
                  have hv01 : v = 0 ∨ v = 1 := by rcases hv with ⟨e, -⟩ | ⟨e, -⟩ <;> omega
                  have hrs : jx_rs σ (jn_alp σ i j t) m := jx_rs_pq hI.1.2.2.2 hPm (jx_ra_rs (jx_Pb_M hP) (by rw [jx_pq_R hI.1.2.2.2 (by omega) (by omega)]; exact hF) (by rw [jx_pq_bA hI.1.2.2.2 (by omega) (by omega)]; exact htau) hra)
                  have hz := jx_rs_0 hrs
                  show jw_W (js_S n) _ md_147 49 [some (.inr (.inr 13)), some (.inl i), some (.inl j), some (.inl t), some (.inl (jn_alt σ i j t))] [.inl v] σ1 _
                  refine jw_W_if rfl (by unfold jw_rg; omega) (fun hc8 => ?_) (fun hc8 => ?_)
                  · have hc8 : v = 0 := hc8
                    refine jw_W_n 1 (i' := 53) (ls' := [some (.inr (.inr 13)), some (.inl i), some (.inl j), some (.inl t), some (.inl (jn_alt σ i j t))]) (st' := [.inl 1]) rfl ?_
                    refine jw_W_ir rfl ?_
                    exact ⟨_, rfl, jx_fy_q hf, .inr ⟨⟨by omega, by omega, by omega, by omega⟩, .inr ⟨rfl, Classical.not_not.mp (fun hh => (hv.resolve_left (fun hh => by omega)).2 (hz.mpr hh))⟩⟩⟩
                  · have hc8 : ¬ (v = 0) := hc8
                    refine jw_W_n 2 (i' := 53) (ls' := [some (.inr (.inr 13)), some (.inl i), some (.inl j), some (.inl t), some (.inl (jn_alt σ i j t))]) (st' := [.inl 2]) rfl ?_
                    refine jw_W_ir rfl ?_
                    exact ⟨_, rfl, jx_fy_q hf, .inr ⟨⟨by omega, by omega, by omega, by omega⟩, .inl ⟨rfl, hz.mp (hv.resolve_right (fun hh => by omega)).2⟩⟩⟩
              · have hc5 : t = 0 := Classical.not_not.mp hc5
                refine jw_W_n 1 (i' := 30) (ls' := [some (.inr (.inr 13)), some (.inl i), some (.inl j), some (.inl t), some (.inl (jw_and (σ 63 i) (σ 63 j)))]) (st' := [.inr (.inr 13)]) rfl ?_
                refine jw_W_gf rfl rfl rfl ?_
                show jw_W (js_S n) _ md_147 31 [some (.inr (.inr 13)), some (.inl i), some (.inl j), some (.inl t), some (.inl (jw_and (σ 63 i) (σ 63 j)))] [.inr (.inr 57)] σ _
                refine jw_W_gf rfl rfl rfl ?_
                show jw_W (js_S n) _ md_147 32 [some (.inr (.inr 13)), some (.inl i), some (.inl j), some (.inl t), some (.inl (jw_and (σ 63 i) (σ 63 j)))] [.inr (.inr 63)] σ _
                refine jw_W_n 1 (i' := 33) (ls' := [some (.inr (.inr 13)), some (.inl i), some (.inl j), some (.inl t), some (.inl (jw_and (σ 63 i) (σ 63 j)))]) (st' := [.inl i, .inr (.inr 63)]) rfl ?_
                refine jw_W_ia rfl rfl (by omega) (by omega) (by omega) ?_
                show jw_W (js_S n) _ md_147 34 [some (.inr (.inr 13)), some (.inl i), some (.inl j), some (.inl t), some (.inl (jw_and (σ 63 i) (σ 63 j)))] [.inl (σ 63 i)] σ _
                refine jw_W_n 2 (i' := 45) (ls' := [some (.inr (.inr 13)), some (.inl i), some (.inl j), some (.inl t), some (.inl (σ 63 i))]) (st' := []) rfl ?_
                have eal : σ 63 i = jn_alt σ i j t := by unfold jn_alt; rw [if_pos (by omega)]; rw [ti]
                rw [eal]
                refine jw_W_n 1 (i' := 46) (ls' := [some (.inr (.inr 13)), some (.inl i), some (.inl j), some (.inl t), some (.inl (jn_alt σ i j t))]) (st' := [.inr (.inr 13)]) rfl ?_
                refine jw_W_gf rfl rfl rfl ?_
                show jw_W (js_S n) _ md_147 47 [some (.inr (.inr 13)), some (.inl i), some (.inl j), some (.inl t), some (.inl (jn_alt σ i j t))] [.inr (.inr 57)] σ _
                refine jw_W_n 1 (i' := 48) (ls' := [some (.inr (.inr 13)), some (.inl i), some (.inl j), some (.inl t), some (.inl (jn_alt σ i j t))]) (st' := [.inl (jn_alt σ i j t), .inr (.inr 57)]) rfl ?_
                refine jw_W_call (as := [.inr (.inr 57), .inl (jn_alt σ i j t)]) (rest := []) rfl rfl rfl rfl (Nat.le_of_ble_eq_true rfl) (.inr rfl) (jx_isEfficientAt hfo hp hP ⟨htau.1, htau.2.1⟩) (by omega) ?_ rfl
                rintro r1 σ1 ⟨m, v, rfl, hf, hra, hv⟩
                have hv01 : v = 0 ∨ v = 1 := by rcases hv with ⟨e, -⟩ | ⟨e, -⟩ <;> omega
                have hrs : jx_rs σ (jn_alp σ i j t) m := jx_rs_pq hI.1.2.2.2 hPm (jx_ra_rs (jx_Pb_M hP) (by rw [jx_pq_R hI.1.2.2.2 (by omega) (by omega)]; exact hF) (by rw [jx_pq_bA hI.1.2.2.2 (by omega) (by omega)]; exact htau) hra)
                have hz := jx_rs_0 hrs
                show jw_W (js_S n) _ md_147 49 [some (.inr (.inr 13)), some (.inl i), some (.inl j), some (.inl t), some (.inl (jn_alt σ i j t))] [.inl v] σ1 _
                refine jw_W_if rfl (by unfold jw_rg; omega) (fun hc9 => ?_) (fun hc9 => ?_)
                · have hc9 : v = 0 := hc9
                  refine jw_W_n 1 (i' := 53) (ls' := [some (.inr (.inr 13)), some (.inl i), some (.inl j), some (.inl t), some (.inl (jn_alt σ i j t))]) (st' := [.inl 1]) rfl ?_
                  refine jw_W_ir rfl ?_
                  exact ⟨_, rfl, jx_fy_q hf, .inr ⟨⟨by omega, by omega, by omega, by omega⟩, .inr ⟨rfl, Classical.not_not.mp (fun hh => (hv.resolve_left (fun hh => by omega)).2 (hz.mpr hh))⟩⟩⟩
                · have hc9 : ¬ (v = 0) := hc9
                  refine jw_W_n 2 (i' := 53) (ls' := [some (.inr (.inr 13)), some (.inl i), some (.inl j), some (.inl t), some (.inl (jn_alt σ i j t))]) (st' := [.inl 2]) rfl ?_
                  refine jw_W_ir rfl ?_
                  exact ⟨_, rfl, jx_fy_q hf, .inr ⟨⟨by omega, by omega, by omega, by omega⟩, .inl ⟨rfl, hz.mp (hv.resolve_right (fun hh => by omega)).2⟩⟩⟩
            · have hc4 : ¬ (t ≤ 10) := hc4
              refine jw_W_n 1 (i' := 14) (ls' := [some (.inr (.inr 13)), some (.inl i), some (.inl j), some (.inl t), none]) (st' := [.inl ((-1))]) rfl ?_
              refine jw_W_ir rfl ?_
              exact ⟨_, rfl, jx_fy_rf σ, .inl ⟨rfl, fun hh => by unfold jn_alc at hh; omega⟩⟩
      · rw [hs]
        show jw_W (js_S n) _ md_147 7 [some (.inr (.inr 13)), some (.inl i), some (.inl j), some (.inl t), none] [.inl 0] σ _
        refine jw_W_if rfl (by unfold jw_rg; omega) (fun hc10 => ?_) (fun hc10 => ?_)
        · clear hc10
          refine jw_W_n 1 (i' := 14) (ls' := [some (.inr (.inr 13)), some (.inl i), some (.inl j), some (.inl t), none]) (st' := [.inl ((-1))]) rfl ?_
          refine jw_W_ir rfl ?_
          exact ⟨_, rfl, jx_fy_rf σ, .inl ⟨rfl, fun hh => by unfold jn_alc at hh; omega⟩⟩
        · exact absurd hc10 (show ¬ ¬ ((0 : Int) = 0) by omega)
  · rw [hs]
    show jw_W (js_S n) _ md_147 3 [some (.inr (.inr 13)), some (.inl i), some (.inl j), some (.inl t), none] [.inl 0] σ _
    refine jw_W_if rfl (by unfold jw_rg; omega) (fun hc11 => ?_) (fun hc11 => ?_)
    · clear hc11
      refine jw_W_n 1 (i' := 14) (ls' := [some (.inr (.inr 13)), some (.inl i), some (.inl j), some (.inl t), none]) (st' := [.inl ((-1))]) rfl ?_
      refine jw_W_ir rfl ?_
      exact ⟨_, rfl, jx_fy_rf σ, .inl ⟨rfl, fun hh => by unfold jn_alc at hh; omega⟩⟩
    · exact absurd hc11 (show ¬ ¬ ((0 : Int) = 0) by omega)
theorem jn_mb {a b A B : Int} (ha : 0 ≤ a ∧ a ≤ A) (hb : 0 ≤ b ∧ b ≤ B) : 0 ≤ a * b ∧ a * b ≤ A * B := ⟨Int.mul_nonneg ha.1 hb.1, Int.mul_le_mul ha.2 hb.2 hb.1 (Int.le_trans ha.1 ha.2)⟩
theorem jn_KN_c {σ : jw_H} {C : List (ge_R × Int)} (hKN : jm_KN σ C) {i : Int} (i0 : 0 ≤ i) (i1 : i < σ 103 56) : ∃ _ : True, ge_F (jm_R σ) (jm_ct σ i) ∧ jm_tau (jm_bA σ) (jm_ct σ i) (σ 136 i) := by
  obtain ⟨hcor, hBd, -⟩ := hKN.1.2.1
  rw [hcor.1] at i1
  have hC := List.getElem?_eq_getElem (l := C) (i := i.toNat) (by omega)
  have h5 := hcor.2 _ _ hC
  rw [Int.toNat_of_nonneg i0] at h5
  have hm := hBd.1 _ (List.getElem_mem (l := C) (n := i.toNat) (by omega))
  rw [h5.1, h5.2]
  exact ⟨trivial, hm.1.1, hm.2.2⟩
theorem jn_pp_w {v : ge_R} (hw : 0 < v.2.2.2) : (ge_pp v).2.2.2 ≤ v.2.2.2 := Int.ediv_le_self _ (Int.le_of_lt hw)
theorem jn_pp4 {x y z w : Int} (hx : jm_bg x) (hy : jm_bg y) (hz : jm_bg z) (hw : 0 < w) (hw2 : jm_bg w) : jw_ldiv x ((Int.gcd ((Int.gcd x y : Nat) : Int) ((Int.gcd z w : Nat) : Int) : Nat) : Int) = (ge_pp (x, y, z, w)).1 ∧ jw_ldiv y ((Int.gcd ((Int.gcd x y : Nat) : Int) ((Int.gcd z w : Nat) : Int) : Nat) : Int) = (ge_pp (x, y, z, w)).2.1 ∧ jw_ldiv z ((Int.gcd ((Int.gcd x y : Nat) : Int) ((Int.gcd z w : Nat) : Int) : Nat) : Int) = (ge_pp (x, y, z, w)).2.2.1 ∧ jw_ldiv w ((Int.gcd ((Int.gcd x y : Nat) : Int) ((Int.gcd z w : Nat) : Int) : Nat) : Int) = (ge_pp (x, y, z, w)).2.2.2 := by
  have hb := hx
  have hb2 := hy
  have hb3 := hz
  have hb4 := hw2
  unfold jm_bg at hb hb2 hb3 hb4
  have g1 := jm_gcd_le (a := x) (b := y) (B := 9200000000000000000) ⟨by omega, by omega⟩ ⟨by omega, by omega⟩
  have g2 := jm_gcd_le (a := z) (b := w) (B := 9200000000000000000) ⟨by omega, by omega⟩ ⟨by omega, by omega⟩
  have g3 := jm_gcd_le (a := ((Int.gcd x y : Nat) : Int)) (b := ((Int.gcd z w : Nat) : Int)) (B := 9200000000000000000) ⟨by omega, by omega⟩ ⟨by omega, by omega⟩
  have d1 : Int.gcd ((Int.gcd x y : Nat) : Int) ((Int.gcd z w : Nat) : Int) ∣ Int.gcd x y := by rw [Int.gcd_natCast_natCast]; exact Nat.gcd_dvd_left _ _
  have d2 : Int.gcd ((Int.gcd x y : Nat) : Int) ((Int.gcd z w : Nat) : Int) ∣ Int.gcd z w := by rw [Int.gcd_natCast_natCast]; exact Nat.gcd_dvd_right _ _
  have g4 : 0 < Int.gcd z w := Int.gcd_pos_of_ne_zero_right _ (by omega)
  have g5 : 0 < Int.gcd ((Int.gcd x y : Nat) : Int) ((Int.gcd z w : Nat) : Int) := by rw [Int.gcd_natCast_natCast]; exact Nat.gcd_pos_of_pos_right _ g4
  exact ⟨jm_ldiv_ex hx (Int.natCast_pos.mpr g5) (by omega) (Int.dvd_trans (Int.natCast_dvd_natCast.mpr d1) (Int.gcd_dvd_left _ _)), jm_ldiv_ex hy (Int.natCast_pos.mpr g5) (by omega) (Int.dvd_trans (Int.natCast_dvd_natCast.mpr d1) (Int.gcd_dvd_right _ _)), jm_ldiv_ex hz (Int.natCast_pos.mpr g5) (by omega) (Int.dvd_trans (Int.natCast_dvd_natCast.mpr d2) (Int.gcd_dvd_left _ _)), jm_ldiv_ex hw2 (Int.natCast_pos.mpr g5) (by omega) (Int.dvd_trans (Int.natCast_dvd_natCast.mpr d2) (Int.gcd_dvd_right _ _))⟩
theorem jm_along {n : Nat} {σ : jw_H} {C : List (ge_R × Int)} (hKN : jm_KN σ C) {i j t : Int} (hi : jw_rg i) (hj : jw_rg j) (ht : jw_rg t) : jw_T (js_S n) 7 316 [.inr (.inr 103), .inl i, .inl j, .inl t] σ (fun r σ' => ∃ v, r = some (.inl v) ∧ jm_fz σ σ' ∧ jn_ala σ i j t v) := by
  refine jw_T_of (D := 6) (M := mm_316) rfl (Nat.le_of_ble_eq_true rfl) (ls0 := [some (.inr (.inr 103)), some (.inl i), some (.inl j), some (.inl t), none, none, none, none, none, none, none, none, none, none, none, none, none, none]) rfl ?_ (by rintro _ _ ⟨_, rfl, -⟩; rfl)
  have hcb := (jm_kw_cbd hKN.1).2 σ (jm_fk_rf σ)
  have hcn := hcb.1
  have hPm := hKN.1.1
  have hqq := hPm.1
  have hww := hPm.2.1
  have hkk := hPm.2.2.1
  have hg57 := hKN.2.2.1.1
  have hg58 := hKN.2.2.2.1.1
  have rhi := hi
  unfold jw_rg at rhi
  have rhj := hj
  unfold jw_rg at rhj
  have rht := ht
  unfold jw_rg at rht
  refine jw_W_n 2 (i' := 2) (ls' := [some (.inr (.inr 103)), some (.inl i), some (.inl j), some (.inl t), none, none, none, none, none, none, none, none, none, none, none, none, none, none]) (st' := [.inl i, .inr (.inr 103)]) rfl ?_
  refine jw_W_call (as := [.inr (.inr 103), .inl i]) (rest := []) rfl rfl rfl rfl (Nat.le_of_ble_eq_true rfl) (.inr rfl) (jm_isCorner hcb hi) (by omega) ?_ rfl
  rintro r1 σz (⟨rfl, hs, q3⟩ | ⟨rfl, hs, q3⟩)
  · rw [hs]
    show jw_W (js_S n) _ md_316 3 [some (.inr (.inr 103)), some (.inl i), some (.inl j), some (.inl t), none, none, none, none, none, none, none, none, none, none, none, none, none, none] [.inl 1] σ _
    refine jw_W_if rfl (by unfold jw_rg; omega) (fun hc1 => ?_) (fun hc1 => ?_)
    · exact absurd hc1 (show ¬ ((1 : Int) = 0) by omega)
    · clear hc1
      refine jw_W_n 2 (i' := 6) (ls' := [some (.inr (.inr 103)), some (.inl i), some (.inl j), some (.inl t), none, none, none, none, none, none, none, none, none, none, none, none, none, none]) (st' := [.inl j, .inr (.inr 103)]) rfl ?_
      refine jw_W_call (as := [.inr (.inr 103), .inl j]) (rest := []) rfl rfl rfl rfl (Nat.le_of_ble_eq_true rfl) (.inr rfl) (jm_isCorner hcb hj) (by omega) ?_ rfl
      rintro r1 σz (⟨rfl, hs, q4⟩ | ⟨rfl, hs, q4⟩)
      · rw [hs]
        show jw_W (js_S n) _ md_316 7 [some (.inr (.inr 103)), some (.inl i), some (.inl j), some (.inl t), none, none, none, none, none, none, none, none, none, none, none, none, none, none] [.inl 1] σ _
        refine jw_W_if rfl (by unfold jw_rg; omega) (fun hc2 => ?_) (fun hc2 => ?_)
        · exact absurd hc2 (show ¬ ((1 : Int) = 0) by omega)
        · clear hc2
          refine jw_W_n 3 (i' := 11) (ls' := [some (.inr (.inr 103)), some (.inl i), some (.inl j), some (.inl t), none, none, none, none, none, none, none, none, none, none, none, none, none, none]) (st' := [.inl 10, .inl 0, .inl t]) rfl ?_
          refine jw_W_call (as := [.inl t, .inl 0, .inl 10]) (rest := []) rfl rfl rfl rfl (Nat.le_of_ble_eq_true rfl) (.inl rfl) (jm_in (by unfold jw_rg; omega) (by unfold jw_rg; omega) (by unfold jw_rg; omega)) (by omega) ?_ rfl
          rintro r1 σz (⟨rfl, hs, q5⟩ | ⟨rfl, hs, q5⟩)
          · rw [hs]
            show jw_W (js_S n) _ md_316 12 [some (.inr (.inr 103)), some (.inl i), some (.inl j), some (.inl t), none, none, none, none, none, none, none, none, none, none, none, none, none, none] [.inl 1] σ _
            refine jw_W_if rfl (by unfold jw_rg; omega) (fun hc3 => ?_) (fun hc3 => ?_)
            · clear hc3
              obtain ⟨xi, hxi, exi⟩ := jn_KN_c hKN (i := i) (by omega) (by omega)
              obtain ⟨xj, hxj, exj⟩ := jn_KN_c hKN (i := j) (by omega) (by omega)
              obtain ⟨hF, htau⟩ := jn_al hPm hxi hxj exi exj (t := t) (by omega) (by omega)
              obtain ⟨q1, q2, q3, q4⟩ := (hcb.2 i (by omega) (by omega)).1
              have q5 := (hcb.2 i (by omega) (by omega)).2
              obtain ⟨p1, p2, p3, p4⟩ := (hcb.2 j (by omega) (by omega)).1
              have p5 := (hcb.2 j (by omega) (by omega)).2
              simp only [jm_ct] at q1 q2 q3 q4 q5 p1 p2 p3 p4 p5
              have w1 : 0 ≤ (10 - t) * σ 135 j ∧ (10 - t) * σ 135 j ≤ 1620 := jn_mb (A := 10) (B := 162) (by omega) (by omega)
              have w2 : 0 ≤ t * σ 135 i ∧ t * σ 135 i ≤ 1620 := jn_mb (A := 10) (B := 162) (by omega) (by omega)
              have m1 := jn_mb (a := (10 - t) * σ 135 j) (b := σ 132 i) (A := 1620) (B := 1458) w1 q1
              have m2 := jn_mb (a := t * σ 135 i) (b := σ 132 j) (A := 1620) (B := 1458) w2 p1
              have m3 := jn_mb (a := (10 - t) * σ 135 j) (b := σ 133 i) (A := 1620) (B := 1458) w1 q2
              have m4 := jn_mb (a := t * σ 135 i) (b := σ 133 j) (A := 1620) (B := 1458) w2 p2
              have m5 := jn_mb (a := (10 - t) * σ 135 j) (b := σ 134 i) (A := 1620) (B := 1458) w1 q3
              have m6 := jn_mb (a := t * σ 135 i) (b := σ 134 j) (A := 1620) (B := 1458) w2 p3
              have m7 := jn_mb (a := 10 * σ 135 i) (b := σ 135 j) (A := 1620) (B := 162) (by omega) (by omega)
              have m8 := Int.mul_pos (show 0 < 10 * σ 135 i by omega) (show 0 < σ 135 j by omega)
              have ga : (0 ≤ (jn_alp σ i j t).1 ∧ (jn_alp σ i j t).1 ≤ 9000000) ∧ (0 ≤ (jn_alp σ i j t).2.1 ∧ (jn_alp σ i j t).2.1 ≤ 9000000) ∧ (0 ≤ (jn_alp σ i j t).2.2.1 ∧ (jn_alp σ i j t).2.2.1 ≤ 9000000) ∧ (0 ≤ (jn_alp σ i j t).2.2.2 ∧ (jn_alp σ i j t).2.2.2 ≤ 9000000) := by unfold jn_alp; simp only; omega
              have gq1 := jm_gcd_le (a := (jn_alp σ i j t).1) (b := (jn_alp σ i j t).2.1) (B := 9000000) (by omega) (by omega)
              have gq2 := jm_gcd_le (a := (jn_alp σ i j t).2.2.1) (b := (jn_alp σ i j t).2.2.2) (B := 9000000) (by omega) (by omega)
              have gq3 := jm_gcd_le (a := ((Int.gcd (jn_alp σ i j t).1 (jn_alp σ i j t).2.1 : Nat) : Int)) (b := ((Int.gcd (jn_alp σ i j t).2.2.1 (jn_alp σ i j t).2.2.2 : Nat) : Int)) (B := 9000000) (by omega) (by omega)
              have gq4 : 0 < Int.gcd ((Int.gcd (jn_alp σ i j t).1 (jn_alp σ i j t).2.1 : Nat) : Int) ((Int.gcd (jn_alp σ i j t).2.2.1 (jn_alp σ i j t).2.2.2 : Nat) : Int) := by rw [Int.gcd_natCast_natCast]; exact Nat.gcd_pos_of_pos_right _ (Int.gcd_pos_of_ne_zero_right _ (by have := m8; unfold jn_alp; simp only; omega))
              obtain ⟨f1, f2, f3, f4⟩ := jn_pp4 (x := (jn_alp σ i j t).1) (y := (jn_alp σ i j t).2.1) (z := (jn_alp σ i j t).2.2.1) (w := (jn_alp σ i j t).2.2.2) (by unfold jm_bg jn_alp; simp only; omega) (by unfold jm_bg jn_alp; simp only; omega) (by unfold jm_bg jn_alp; simp only; omega) m8 (by unfold jm_bg jn_alp; simp only; omega)
              refine jw_W_n 3 (i' := 18) (ls' := [some (.inr (.inr 103)), some (.inl i), some (.inl j), some (.inl t), none, none, none, none, none, none, none, none, none, none, none, none, none, none]) (st' := [.inl (10 - t)]) rfl ?_
              refine jw_W_i2l rfl (by unfold jw_rg; omega) ?_
              refine jw_W_n 1 (i' := 20) (ls' := [some (.inr (.inr 103)), some (.inl i), some (.inl j), some (.inl t), none, none, none, none, none, none, none, none, none, none, none, none, none, none]) (st' := [.inr (.inr 103), .inr (.inl (10 - t))]) rfl ?_
              refine jw_W_gf rfl rfl rfl ?_
              show jw_W (js_S n) _ md_316 21 [some (.inr (.inr 103)), some (.inl i), some (.inl j), some (.inl t), none, none, none, none, none, none, none, none, none, none, none, none, none, none] [.inr (.inr 135), .inr (.inl (10 - t))] σ _
              refine jw_W_n 1 (i' := 22) (ls' := [some (.inr (.inr 103)), some (.inl i), some (.inl j), some (.inl t), none, none, none, none, none, none, none, none, none, none, none, none, none, none]) (st' := [.inl j, .inr (.inr 135), .inr (.inl (10 - t))]) rfl ?_
              refine jw_W_la rfl rfl (by omega) (by omega) (by omega) ?_
              show jw_W (js_S n) _ md_316 23 [some (.inr (.inr 103)), some (.inl i), some (.inl j), some (.inl t), none, none, none, none, none, none, none, none, none, none, none, none, none, none] [.inr (.inl (σ 135 j)), .inr (.inl (10 - t))] σ _
              refine jw_W_n 3 (i' := 26) (ls' := [some (.inr (.inr 103)), some (.inl i), some (.inl j), some (.inl t), some (.inr (.inl ((10 - t) * (σ 135 j)))), none, none, none, none, none, none, none, none, none, none, none, none, none]) (st' := [.inl t]) rfl ?_
              refine jw_W_i2l rfl (by unfold jw_rg; omega) ?_
              refine jw_W_n 1 (i' := 28) (ls' := [some (.inr (.inr 103)), some (.inl i), some (.inl j), some (.inl t), some (.inr (.inl ((10 - t) * (σ 135 j)))), none, none, none, none, none, none, none, none, none, none, none, none, none]) (st' := [.inr (.inr 103), .inr (.inl t)]) rfl ?_
              refine jw_W_gf rfl rfl rfl ?_
              show jw_W (js_S n) _ md_316 29 [some (.inr (.inr 103)), some (.inl i), some (.inl j), some (.inl t), some (.inr (.inl ((10 - t) * (σ 135 j)))), none, none, none, none, none, none, none, none, none, none, none, none, none] [.inr (.inr 135), .inr (.inl t)] σ _
              refine jw_W_n 1 (i' := 30) (ls' := [some (.inr (.inr 103)), some (.inl i), some (.inl j), some (.inl t), some (.inr (.inl ((10 - t) * (σ 135 j)))), none, none, none, none, none, none, none, none, none, none, none, none, none]) (st' := [.inl i, .inr (.inr 135), .inr (.inl t)]) rfl ?_
              refine jw_W_la rfl rfl (by omega) (by omega) (by omega) ?_
              show jw_W (js_S n) _ md_316 31 [some (.inr (.inr 103)), some (.inl i), some (.inl j), some (.inl t), some (.inr (.inl ((10 - t) * (σ 135 j)))), none, none, none, none, none, none, none, none, none, none, none, none, none] [.inr (.inl (σ 135 i)), .inr (.inl t)] σ _
              refine jw_W_n 4 (i' := 35) (ls' := [some (.inr (.inr 103)), some (.inl i), some (.inl j), some (.inl t), some (.inr (.inl ((10 - t) * (σ 135 j)))), none, some (.inr (.inl (t * (σ 135 i)))), none, none, none, none, none, none, none, none, none, none, none]) (st' := [.inr (.inr 103), .inr (.inl ((10 - t) * (σ 135 j)))]) rfl ?_
              refine jw_W_gf rfl rfl rfl ?_
              show jw_W (js_S n) _ md_316 36 [some (.inr (.inr 103)), some (.inl i), some (.inl j), some (.inl t), some (.inr (.inl ((10 - t) * (σ 135 j)))), none, some (.inr (.inl (t * (σ 135 i)))), none, none, none, none, none, none, none, none, none, none, none] [.inr (.inr 132), .inr (.inl ((10 - t) * (σ 135 j)))] σ _
              refine jw_W_n 1 (i' := 37) (ls' := [some (.inr (.inr 103)), some (.inl i), some (.inl j), some (.inl t), some (.inr (.inl ((10 - t) * (σ 135 j)))), none, some (.inr (.inl (t * (σ 135 i)))), none, none, none, none, none, none, none, none, none, none, none]) (st' := [.inl i, .inr (.inr 132), .inr (.inl ((10 - t) * (σ 135 j)))]) rfl ?_
              refine jw_W_la rfl rfl (by omega) (by omega) (by omega) ?_
              show jw_W (js_S n) _ md_316 38 [some (.inr (.inr 103)), some (.inl i), some (.inl j), some (.inl t), some (.inr (.inl ((10 - t) * (σ 135 j)))), none, some (.inr (.inl (t * (σ 135 i)))), none, none, none, none, none, none, none, none, none, none, none] [.inr (.inl (σ 132 i)), .inr (.inl ((10 - t) * (σ 135 j)))] σ _
              refine jw_W_n 3 (i' := 41) (ls' := [some (.inr (.inr 103)), some (.inl i), some (.inl j), some (.inl t), some (.inr (.inl ((10 - t) * (σ 135 j)))), none, some (.inr (.inl (t * (σ 135 i)))), none, none, none, none, none, none, none, none, none, none, none]) (st' := [.inr (.inr 103), .inr (.inl (t * (σ 135 i))), .inr (.inl (((10 - t) * (σ 135 j)) * (σ 132 i)))]) rfl ?_
              refine jw_W_gf rfl rfl rfl ?_
              show jw_W (js_S n) _ md_316 42 [some (.inr (.inr 103)), some (.inl i), some (.inl j), some (.inl t), some (.inr (.inl ((10 - t) * (σ 135 j)))), none, some (.inr (.inl (t * (σ 135 i)))), none, none, none, none, none, none, none, none, none, none, none] [.inr (.inr 132), .inr (.inl (t * (σ 135 i))), .inr (.inl (((10 - t) * (σ 135 j)) * (σ 132 i)))] σ _
              refine jw_W_n 1 (i' := 43) (ls' := [some (.inr (.inr 103)), some (.inl i), some (.inl j), some (.inl t), some (.inr (.inl ((10 - t) * (σ 135 j)))), none, some (.inr (.inl (t * (σ 135 i)))), none, none, none, none, none, none, none, none, none, none, none]) (st' := [.inl j, .inr (.inr 132), .inr (.inl (t * (σ 135 i))), .inr (.inl (((10 - t) * (σ 135 j)) * (σ 132 i)))]) rfl ?_
              refine jw_W_la rfl rfl (by omega) (by omega) (by omega) ?_
              show jw_W (js_S n) _ md_316 44 [some (.inr (.inr 103)), some (.inl i), some (.inl j), some (.inl t), some (.inr (.inl ((10 - t) * (σ 135 j)))), none, some (.inr (.inl (t * (σ 135 i)))), none, none, none, none, none, none, none, none, none, none, none] [.inr (.inl (σ 132 j)), .inr (.inl (t * (σ 135 i))), .inr (.inl (((10 - t) * (σ 135 j)) * (σ 132 i)))] σ _
              refine jw_W_n 2 (i' := 46) (ls' := [some (.inr (.inr 103)), some (.inl i), some (.inl j), some (.inl t), some (.inr (.inl ((10 - t) * (σ 135 j)))), none, some (.inr (.inl (t * (σ 135 i)))), none, none, none, none, none, none, none, none, none, none, none]) (st' := [.inr (.inl ((((10 - t) * (σ 135 j)) * (σ 132 i)) + ((t * (σ 135 i)) * (σ 132 j))))]) rfl ?_
              have en1 : (((10 - t) * (σ 135 j)) * (σ 132 i)) + ((t * (σ 135 i)) * (σ 132 j)) = (jn_alp σ i j t).1 := rfl
              rw [en1]
              refine jw_W_n 3 (i' := 49) (ls' := [some (.inr (.inr 103)), some (.inl i), some (.inl j), some (.inl t), some (.inr (.inl ((10 - t) * (σ 135 j)))), none, some (.inr (.inl (t * (σ 135 i)))), none, some (.inr (.inl ((jn_alp σ i j t).1))), none, none, none, none, none, none, none, none, none]) (st' := [.inr (.inr 103), .inr (.inl ((10 - t) * (σ 135 j)))]) rfl ?_
              refine jw_W_gf rfl rfl rfl ?_
              show jw_W (js_S n) _ md_316 50 [some (.inr (.inr 103)), some (.inl i), some (.inl j), some (.inl t), some (.inr (.inl ((10 - t) * (σ 135 j)))), none, some (.inr (.inl (t * (σ 135 i)))), none, some (.inr (.inl ((jn_alp σ i j t).1))), none, none, none, none, none, none, none, none, none] [.inr (.inr 133), .inr (.inl ((10 - t) * (σ 135 j)))] σ _
              refine jw_W_n 1 (i' := 51) (ls' := [some (.inr (.inr 103)), some (.inl i), some (.inl j), some (.inl t), some (.inr (.inl ((10 - t) * (σ 135 j)))), none, some (.inr (.inl (t * (σ 135 i)))), none, some (.inr (.inl ((jn_alp σ i j t).1))), none, none, none, none, none, none, none, none, none]) (st' := [.inl i, .inr (.inr 133), .inr (.inl ((10 - t) * (σ 135 j)))]) rfl ?_
              refine jw_W_la rfl rfl (by omega) (by omega) (by omega) ?_
              show jw_W (js_S n) _ md_316 52 [some (.inr (.inr 103)), some (.inl i), some (.inl j), some (.inl t), some (.inr (.inl ((10 - t) * (σ 135 j)))), none, some (.inr (.inl (t * (σ 135 i)))), none, some (.inr (.inl ((jn_alp σ i j t).1))), none, none, none, none, none, none, none, none, none] [.inr (.inl (σ 133 i)), .inr (.inl ((10 - t) * (σ 135 j)))] σ _
              refine jw_W_n 3 (i' := 55) (ls' := [some (.inr (.inr 103)), some (.inl i), some (.inl j), some (.inl t), some (.inr (.inl ((10 - t) * (σ 135 j)))), none, some (.inr (.inl (t * (σ 135 i)))), none, some (.inr (.inl ((jn_alp σ i j t).1))), none, none, none, none, none, none, none, none, none]) (st' := [.inr (.inr 103), .inr (.inl (t * (σ 135 i))), .inr (.inl (((10 - t) * (σ 135 j)) * (σ 133 i)))]) rfl ?_
              refine jw_W_gf rfl rfl rfl ?_
              show jw_W (js_S n) _ md_316 56 [some (.inr (.inr 103)), some (.inl i), some (.inl j), some (.inl t), some (.inr (.inl ((10 - t) * (σ 135 j)))), none, some (.inr (.inl (t * (σ 135 i)))), none, some (.inr (.inl ((jn_alp σ i j t).1))), none, none, none, none, none, none, none, none, none] [.inr (.inr 133), .inr (.inl (t * (σ 135 i))), .inr (.inl (((10 - t) * (σ 135 j)) * (σ 133 i)))] σ _
              refine jw_W_n 1 (i' := 57) (ls' := [some (.inr (.inr 103)), some (.inl i), some (.inl j), some (.inl t), some (.inr (.inl ((10 - t) * (σ 135 j)))), none, some (.inr (.inl (t * (σ 135 i)))), none, some (.inr (.inl ((jn_alp σ i j t).1))), none, none, none, none, none, none, none, none, none]) (st' := [.inl j, .inr (.inr 133), .inr (.inl (t * (σ 135 i))), .inr (.inl (((10 - t) * (σ 135 j)) * (σ 133 i)))]) rfl ?_
              refine jw_W_la rfl rfl (by omega) (by omega) (by omega) ?_
              show jw_W (js_S n) _ md_316 58 [some (.inr (.inr 103)), some (.inl i), some (.inl j), some (.inl t), some (.inr (.inl ((10 - t) * (σ 135 j)))), none, some (.inr (.inl (t * (σ 135 i)))), none, some (.inr (.inl ((jn_alp σ i j t).1))), none, none, none, none, none, none, none, none, none] [.inr (.inl (σ 133 j)), .inr (.inl (t * (σ 135 i))), .inr (.inl (((10 - t) * (σ 135 j)) * (σ 133 i)))] σ _
              refine jw_W_n 2 (i' := 60) (ls' := [some (.inr (.inr 103)), some (.inl i), some (.inl j), some (.inl t), some (.inr (.inl ((10 - t) * (σ 135 j)))), none, some (.inr (.inl (t * (σ 135 i)))), none, some (.inr (.inl ((jn_alp σ i j t).1))), none, none, none, none, none, none, none, none, none]) (st' := [.inr (.inl ((((10 - t) * (σ 135 j)) * (σ 133 i)) + ((t * (σ 135 i)) * (σ 133 j))))]) rfl ?_
              have en2 : (((10 - t) * (σ 135 j)) * (σ 133 i)) + ((t * (σ 135 i)) * (σ 133 j)) = (jn_alp σ i j t).2.1 := rfl
              rw [en2]
              refine jw_W_n 3 (i' := 63) (ls' := [some (.inr (.inr 103)), some (.inl i), some (.inl j), some (.inl t), some (.inr (.inl ((10 - t) * (σ 135 j)))), none, some (.inr (.inl (t * (σ 135 i)))), none, some (.inr (.inl ((jn_alp σ i j t).1))), none, some (.inr (.inl ((jn_alp σ i j t).2.1))), none, none, none, none, none, none, none]) (st' := [.inr (.inr 103), .inr (.inl ((10 - t) * (σ 135 j)))]) rfl ?_
              refine jw_W_gf rfl rfl rfl ?_
              show jw_W (js_S n) _ md_316 64 [some (.inr (.inr 103)), some (.inl i), some (.inl j), some (.inl t), some (.inr (.inl ((10 - t) * (σ 135 j)))), none, some (.inr (.inl (t * (σ 135 i)))), none, some (.inr (.inl ((jn_alp σ i j t).1))), none, some (.inr (.inl ((jn_alp σ i j t).2.1))), none, none, none, none, none, none, none] [.inr (.inr 134), .inr (.inl ((10 - t) * (σ 135 j)))] σ _
              refine jw_W_n 1 (i' := 65) (ls' := [some (.inr (.inr 103)), some (.inl i), some (.inl j), some (.inl t), some (.inr (.inl ((10 - t) * (σ 135 j)))), none, some (.inr (.inl (t * (σ 135 i)))), none, some (.inr (.inl ((jn_alp σ i j t).1))), none, some (.inr (.inl ((jn_alp σ i j t).2.1))), none, none, none, none, none, none, none]) (st' := [.inl i, .inr (.inr 134), .inr (.inl ((10 - t) * (σ 135 j)))]) rfl ?_
              refine jw_W_la rfl rfl (by omega) (by omega) (by omega) ?_
              show jw_W (js_S n) _ md_316 66 [some (.inr (.inr 103)), some (.inl i), some (.inl j), some (.inl t), some (.inr (.inl ((10 - t) * (σ 135 j)))), none, some (.inr (.inl (t * (σ 135 i)))), none, some (.inr (.inl ((jn_alp σ i j t).1))), none, some (.inr (.inl ((jn_alp σ i j t).2.1))), none, none, none, none, none, none, none] [.inr (.inl (σ 134 i)), .inr (.inl ((10 - t) * (σ 135 j)))] σ _
              refine jw_W_n 3 (i' := 69) (ls' := [some (.inr (.inr 103)), some (.inl i), some (.inl j), some (.inl t), some (.inr (.inl ((10 - t) * (σ 135 j)))), none, some (.inr (.inl (t * (σ 135 i)))), none, some (.inr (.inl ((jn_alp σ i j t).1))), none, some (.inr (.inl ((jn_alp σ i j t).2.1))), none, none, none, none, none, none, none]) (st' := [.inr (.inr 103), .inr (.inl (t * (σ 135 i))), .inr (.inl (((10 - t) * (σ 135 j)) * (σ 134 i)))]) rfl ?_
              refine jw_W_gf rfl rfl rfl ?_
              show jw_W (js_S n) _ md_316 70 [some (.inr (.inr 103)), some (.inl i), some (.inl j), some (.inl t), some (.inr (.inl ((10 - t) * (σ 135 j)))), none, some (.inr (.inl (t * (σ 135 i)))), none, some (.inr (.inl ((jn_alp σ i j t).1))), none, some (.inr (.inl ((jn_alp σ i j t).2.1))), none, none, none, none, none, none, none] [.inr (.inr 134), .inr (.inl (t * (σ 135 i))), .inr (.inl (((10 - t) * (σ 135 j)) * (σ 134 i)))] σ _
              refine jw_W_n 1 (i' := 71) (ls' := [some (.inr (.inr 103)), some (.inl i), some (.inl j), some (.inl t), some (.inr (.inl ((10 - t) * (σ 135 j)))), none, some (.inr (.inl (t * (σ 135 i)))), none, some (.inr (.inl ((jn_alp σ i j t).1))), none, some (.inr (.inl ((jn_alp σ i j t).2.1))), none, none, none, none, none, none, none]) (st' := [.inl j, .inr (.inr 134), .inr (.inl (t * (σ 135 i))), .inr (.inl (((10 - t) * (σ 135 j)) * (σ 134 i)))]) rfl ?_
              refine jw_W_la rfl rfl (by omega) (by omega) (by omega) ?_
              show jw_W (js_S n) _ md_316 72 [some (.inr (.inr 103)), some (.inl i), some (.inl j), some (.inl t), some (.inr (.inl ((10 - t) * (σ 135 j)))), none, some (.inr (.inl (t * (σ 135 i)))), none, some (.inr (.inl ((jn_alp σ i j t).1))), none, some (.inr (.inl ((jn_alp σ i j t).2.1))), none, none, none, none, none, none, none] [.inr (.inl (σ 134 j)), .inr (.inl (t * (σ 135 i))), .inr (.inl (((10 - t) * (σ 135 j)) * (σ 134 i)))] σ _
              refine jw_W_n 2 (i' := 74) (ls' := [some (.inr (.inr 103)), some (.inl i), some (.inl j), some (.inl t), some (.inr (.inl ((10 - t) * (σ 135 j)))), none, some (.inr (.inl (t * (σ 135 i)))), none, some (.inr (.inl ((jn_alp σ i j t).1))), none, some (.inr (.inl ((jn_alp σ i j t).2.1))), none, none, none, none, none, none, none]) (st' := [.inr (.inl ((((10 - t) * (σ 135 j)) * (σ 134 i)) + ((t * (σ 135 i)) * (σ 134 j))))]) rfl ?_
              have en3 : (((10 - t) * (σ 135 j)) * (σ 134 i)) + ((t * (σ 135 i)) * (σ 134 j)) = (jn_alp σ i j t).2.2.1 := rfl
              rw [en3]
              refine jw_W_n 1 (i' := 75) (ls' := [some (.inr (.inr 103)), some (.inl i), some (.inl j), some (.inl t), some (.inr (.inl ((10 - t) * (σ 135 j)))), none, some (.inr (.inl (t * (σ 135 i)))), none, some (.inr (.inl ((jn_alp σ i j t).1))), none, some (.inr (.inl ((jn_alp σ i j t).2.1))), none, some (.inr (.inl ((jn_alp σ i j t).2.2.1))), none, none, none, none, none]) (st' := []) rfl ?_
              refine jw_W_ld2 (z := 10) rfl rfl ?_
              refine jw_W_n 1 (i' := 77) (ls' := [some (.inr (.inr 103)), some (.inl i), some (.inl j), some (.inl t), some (.inr (.inl ((10 - t) * (σ 135 j)))), none, some (.inr (.inl (t * (σ 135 i)))), none, some (.inr (.inl ((jn_alp σ i j t).1))), none, some (.inr (.inl ((jn_alp σ i j t).2.1))), none, some (.inr (.inl ((jn_alp σ i j t).2.2.1))), none, none, none, none, none]) (st' := [.inr (.inr 103), .inr (.inl 10)]) rfl ?_
              refine jw_W_gf rfl rfl rfl ?_
              show jw_W (js_S n) _ md_316 78 [some (.inr (.inr 103)), some (.inl i), some (.inl j), some (.inl t), some (.inr (.inl ((10 - t) * (σ 135 j)))), none, some (.inr (.inl (t * (σ 135 i)))), none, some (.inr (.inl ((jn_alp σ i j t).1))), none, some (.inr (.inl ((jn_alp σ i j t).2.1))), none, some (.inr (.inl ((jn_alp σ i j t).2.2.1))), none, none, none, none, none] [.inr (.inr 135), .inr (.inl 10)] σ _
              refine jw_W_n 1 (i' := 79) (ls' := [some (.inr (.inr 103)), some (.inl i), some (.inl j), some (.inl t), some (.inr (.inl ((10 - t) * (σ 135 j)))), none, some (.inr (.inl (t * (σ 135 i)))), none, some (.inr (.inl ((jn_alp σ i j t).1))), none, some (.inr (.inl ((jn_alp σ i j t).2.1))), none, some (.inr (.inl ((jn_alp σ i j t).2.2.1))), none, none, none, none, none]) (st' := [.inl i, .inr (.inr 135), .inr (.inl 10)]) rfl ?_
              refine jw_W_la rfl rfl (by omega) (by omega) (by omega) ?_
              show jw_W (js_S n) _ md_316 80 [some (.inr (.inr 103)), some (.inl i), some (.inl j), some (.inl t), some (.inr (.inl ((10 - t) * (σ 135 j)))), none, some (.inr (.inl (t * (σ 135 i)))), none, some (.inr (.inl ((jn_alp σ i j t).1))), none, some (.inr (.inl ((jn_alp σ i j t).2.1))), none, some (.inr (.inl ((jn_alp σ i j t).2.2.1))), none, none, none, none, none] [.inr (.inl (σ 135 i)), .inr (.inl 10)] σ _
              refine jw_W_n 2 (i' := 82) (ls' := [some (.inr (.inr 103)), some (.inl i), some (.inl j), some (.inl t), some (.inr (.inl ((10 - t) * (σ 135 j)))), none, some (.inr (.inl (t * (σ 135 i)))), none, some (.inr (.inl ((jn_alp σ i j t).1))), none, some (.inr (.inl ((jn_alp σ i j t).2.1))), none, some (.inr (.inl ((jn_alp σ i j t).2.2.1))), none, none, none, none, none]) (st' := [.inr (.inr 103), .inr (.inl (10 * (σ 135 i)))]) rfl ?_
              refine jw_W_gf rfl rfl rfl ?_
              show jw_W (js_S n) _ md_316 83 [some (.inr (.inr 103)), some (.inl i), some (.inl j), some (.inl t), some (.inr (.inl ((10 - t) * (σ 135 j)))), none, some (.inr (.inl (t * (σ 135 i)))), none, some (.inr (.inl ((jn_alp σ i j t).1))), none, some (.inr (.inl ((jn_alp σ i j t).2.1))), none, some (.inr (.inl ((jn_alp σ i j t).2.2.1))), none, none, none, none, none] [.inr (.inr 135), .inr (.inl (10 * (σ 135 i)))] σ _
              refine jw_W_n 1 (i' := 84) (ls' := [some (.inr (.inr 103)), some (.inl i), some (.inl j), some (.inl t), some (.inr (.inl ((10 - t) * (σ 135 j)))), none, some (.inr (.inl (t * (σ 135 i)))), none, some (.inr (.inl ((jn_alp σ i j t).1))), none, some (.inr (.inl ((jn_alp σ i j t).2.1))), none, some (.inr (.inl ((jn_alp σ i j t).2.2.1))), none, none, none, none, none]) (st' := [.inl j, .inr (.inr 135), .inr (.inl (10 * (σ 135 i)))]) rfl ?_
              refine jw_W_la rfl rfl (by omega) (by omega) (by omega) ?_
              show jw_W (js_S n) _ md_316 85 [some (.inr (.inr 103)), some (.inl i), some (.inl j), some (.inl t), some (.inr (.inl ((10 - t) * (σ 135 j)))), none, some (.inr (.inl (t * (σ 135 i)))), none, some (.inr (.inl ((jn_alp σ i j t).1))), none, some (.inr (.inl ((jn_alp σ i j t).2.1))), none, some (.inr (.inl ((jn_alp σ i j t).2.2.1))), none, none, none, none, none] [.inr (.inl (σ 135 j)), .inr (.inl (10 * (σ 135 i)))] σ _
              refine jw_W_n 1 (i' := 86) (ls' := [some (.inr (.inr 103)), some (.inl i), some (.inl j), some (.inl t), some (.inr (.inl ((10 - t) * (σ 135 j)))), none, some (.inr (.inl (t * (σ 135 i)))), none, some (.inr (.inl ((jn_alp σ i j t).1))), none, some (.inr (.inl ((jn_alp σ i j t).2.1))), none, some (.inr (.inl ((jn_alp σ i j t).2.2.1))), none, none, none, none, none]) (st' := [.inr (.inl ((10 * (σ 135 i)) * (σ 135 j)))]) rfl ?_
              have en4 : (10 * (σ 135 i)) * (σ 135 j) = (jn_alp σ i j t).2.2.2 := rfl
              rw [en4]
              refine jw_W_n 3 (i' := 89) (ls' := [some (.inr (.inr 103)), some (.inl i), some (.inl j), some (.inl t), some (.inr (.inl ((10 - t) * (σ 135 j)))), none, some (.inr (.inl (t * (σ 135 i)))), none, some (.inr (.inl ((jn_alp σ i j t).1))), none, some (.inr (.inl ((jn_alp σ i j t).2.1))), none, some (.inr (.inl ((jn_alp σ i j t).2.2.1))), none, some (.inr (.inl ((jn_alp σ i j t).2.2.2))), none, none, none]) (st' := [.inr (.inl ((jn_alp σ i j t).2.1)), .inr (.inl ((jn_alp σ i j t).1))]) rfl ?_
              refine jw_W_call (as := [.inr (.inl ((jn_alp σ i j t).1)), .inr (.inl ((jn_alp σ i j t).2.1))]) (rest := []) rfl rfl rfl rfl (Nat.le_of_ble_eq_true rfl) (.inl rfl) (jm_gcd (by unfold jw_rgl; omega) (by omega) (by unfold jw_rgl; omega) (by omega)) (by omega) ?_ rfl
              rintro r1 σz ⟨rfl, hs⟩
              rw [hs]
              show jw_W (js_S n) _ md_316 90 [some (.inr (.inr 103)), some (.inl i), some (.inl j), some (.inl t), some (.inr (.inl ((10 - t) * (σ 135 j)))), none, some (.inr (.inl (t * (σ 135 i)))), none, some (.inr (.inl ((jn_alp σ i j t).1))), none, some (.inr (.inl ((jn_alp σ i j t).2.1))), none, some (.inr (.inl ((jn_alp σ i j t).2.2.1))), none, some (.inr (.inl ((jn_alp σ i j t).2.2.2))), none, none, none] [.inr (.inl (((Int.gcd ((jn_alp σ i j t).1) ((jn_alp σ i j t).2.1) : Nat) : Int)))] σ _
              refine jw_W_n 2 (i' := 92) (ls' := [some (.inr (.inr 103)), some (.inl i), some (.inl j), some (.inl t), some (.inr (.inl ((10 - t) * (σ 135 j)))), none, some (.inr (.inl (t * (σ 135 i)))), none, some (.inr (.inl ((jn_alp σ i j t).1))), none, some (.inr (.inl ((jn_alp σ i j t).2.1))), none, some (.inr (.inl ((jn_alp σ i j t).2.2.1))), none, some (.inr (.inl ((jn_alp σ i j t).2.2.2))), none, none, none]) (st' := [.inr (.inl ((jn_alp σ i j t).2.2.2)), .inr (.inl ((jn_alp σ i j t).2.2.1)), .inr (.inl (((Int.gcd ((jn_alp σ i j t).1) ((jn_alp σ i j t).2.1) : Nat) : Int)))]) rfl ?_
              refine jw_W_call (as := [.inr (.inl ((jn_alp σ i j t).2.2.1)), .inr (.inl ((jn_alp σ i j t).2.2.2))]) (rest := [.inr (.inl (((Int.gcd ((jn_alp σ i j t).1) ((jn_alp σ i j t).2.1) : Nat) : Int)))]) rfl rfl rfl rfl (Nat.le_of_ble_eq_true rfl) (.inl rfl) (jm_gcd (by unfold jw_rgl; omega) (by omega) (by unfold jw_rgl; omega) (by omega)) (by omega) ?_ rfl
              rintro r1 σz ⟨rfl, hs⟩
              rw [hs]
              show jw_W (js_S n) _ md_316 93 [some (.inr (.inr 103)), some (.inl i), some (.inl j), some (.inl t), some (.inr (.inl ((10 - t) * (σ 135 j)))), none, some (.inr (.inl (t * (σ 135 i)))), none, some (.inr (.inl ((jn_alp σ i j t).1))), none, some (.inr (.inl ((jn_alp σ i j t).2.1))), none, some (.inr (.inl ((jn_alp σ i j t).2.2.1))), none, some (.inr (.inl ((jn_alp σ i j t).2.2.2))), none, none, none] [.inr (.inl (((Int.gcd ((jn_alp σ i j t).2.2.1) ((jn_alp σ i j t).2.2.2) : Nat) : Int))), .inr (.inl (((Int.gcd ((jn_alp σ i j t).1) ((jn_alp σ i j t).2.1) : Nat) : Int)))] σ _
              refine jw_W_call (as := [.inr (.inl (((Int.gcd ((jn_alp σ i j t).1) ((jn_alp σ i j t).2.1) : Nat) : Int))), .inr (.inl (((Int.gcd ((jn_alp σ i j t).2.2.1) ((jn_alp σ i j t).2.2.2) : Nat) : Int)))]) (rest := []) rfl rfl rfl rfl (Nat.le_of_ble_eq_true rfl) (.inl rfl) (jm_gcd (by unfold jw_rgl; omega) (by omega) (by unfold jw_rgl; omega) (by omega)) (by omega) ?_ rfl
              rintro r1 σz ⟨rfl, hs⟩
              rw [hs]
              show jw_W (js_S n) _ md_316 94 [some (.inr (.inr 103)), some (.inl i), some (.inl j), some (.inl t), some (.inr (.inl ((10 - t) * (σ 135 j)))), none, some (.inr (.inl (t * (σ 135 i)))), none, some (.inr (.inl ((jn_alp σ i j t).1))), none, some (.inr (.inl ((jn_alp σ i j t).2.1))), none, some (.inr (.inl ((jn_alp σ i j t).2.2.1))), none, some (.inr (.inl ((jn_alp σ i j t).2.2.2))), none, none, none] [.inr (.inl (((Int.gcd (((Int.gcd ((jn_alp σ i j t).1) ((jn_alp σ i j t).2.1) : Nat) : Int)) (((Int.gcd ((jn_alp σ i j t).2.2.1) ((jn_alp σ i j t).2.2.2) : Nat) : Int)) : Nat) : Int)))] σ _
              refine jw_W_n 4 (i' := 98) (ls' := [some (.inr (.inr 103)), some (.inl i), some (.inl j), some (.inl t), some (.inr (.inl ((10 - t) * (σ 135 j)))), none, some (.inr (.inl (t * (σ 135 i)))), none, some (.inr (.inl ((jn_alp σ i j t).1))), none, some (.inr (.inl ((jn_alp σ i j t).2.1))), none, some (.inr (.inl ((jn_alp σ i j t).2.2.1))), none, some (.inr (.inl ((jn_alp σ i j t).2.2.2))), none, some (.inr (.inl (((Int.gcd (((Int.gcd ((jn_alp σ i j t).1) ((jn_alp σ i j t).2.1) : Nat) : Int)) (((Int.gcd ((jn_alp σ i j t).2.2.1) ((jn_alp σ i j t).2.2.2) : Nat) : Int)) : Nat) : Int)))), none]) (st' := [.inr (.inl (((Int.gcd (((Int.gcd ((jn_alp σ i j t).1) ((jn_alp σ i j t).2.1) : Nat) : Int)) (((Int.gcd ((jn_alp σ i j t).2.2.1) ((jn_alp σ i j t).2.2.2) : Nat) : Int)) : Nat) : Int))), .inr (.inl ((jn_alp σ i j t).1)), .inr (.inr 103)]) rfl ?_
              refine jw_W_ldiv rfl (by unfold jw_rgl; omega) (by omega) ?_
              rw [f1]
              refine jw_W_n 2 (i' := 101) (ls' := [some (.inr (.inr 103)), some (.inl i), some (.inl j), some (.inl t), some (.inr (.inl ((10 - t) * (σ 135 j)))), none, some (.inr (.inl (t * (σ 135 i)))), none, some (.inr (.inl ((jn_alp σ i j t).1))), none, some (.inr (.inl ((jn_alp σ i j t).2.1))), none, some (.inr (.inl ((jn_alp σ i j t).2.2.1))), none, some (.inr (.inl ((jn_alp σ i j t).2.2.2))), none, some (.inr (.inl (((Int.gcd (((Int.gcd ((jn_alp σ i j t).1) ((jn_alp σ i j t).2.1) : Nat) : Int)) (((Int.gcd ((jn_alp σ i j t).2.2.1) ((jn_alp σ i j t).2.2.2) : Nat) : Int)) : Nat) : Int)))), none]) (st' := [.inr (.inl (((Int.gcd (((Int.gcd ((jn_alp σ i j t).1) ((jn_alp σ i j t).2.1) : Nat) : Int)) (((Int.gcd ((jn_alp σ i j t).2.2.1) ((jn_alp σ i j t).2.2.2) : Nat) : Int)) : Nat) : Int))), .inr (.inl ((jn_alp σ i j t).2.1)), .inr (.inl ((ge_pp (jn_alp σ i j t)).1)), .inr (.inr 103)]) rfl ?_
              refine jw_W_ldiv rfl (by unfold jw_rgl; omega) (by omega) ?_
              rw [f2]
              refine jw_W_n 2 (i' := 104) (ls' := [some (.inr (.inr 103)), some (.inl i), some (.inl j), some (.inl t), some (.inr (.inl ((10 - t) * (σ 135 j)))), none, some (.inr (.inl (t * (σ 135 i)))), none, some (.inr (.inl ((jn_alp σ i j t).1))), none, some (.inr (.inl ((jn_alp σ i j t).2.1))), none, some (.inr (.inl ((jn_alp σ i j t).2.2.1))), none, some (.inr (.inl ((jn_alp σ i j t).2.2.2))), none, some (.inr (.inl (((Int.gcd (((Int.gcd ((jn_alp σ i j t).1) ((jn_alp σ i j t).2.1) : Nat) : Int)) (((Int.gcd ((jn_alp σ i j t).2.2.1) ((jn_alp σ i j t).2.2.2) : Nat) : Int)) : Nat) : Int)))), none]) (st' := [.inr (.inl (((Int.gcd (((Int.gcd ((jn_alp σ i j t).1) ((jn_alp σ i j t).2.1) : Nat) : Int)) (((Int.gcd ((jn_alp σ i j t).2.2.1) ((jn_alp σ i j t).2.2.2) : Nat) : Int)) : Nat) : Int))), .inr (.inl ((jn_alp σ i j t).2.2.1)), .inr (.inl ((ge_pp (jn_alp σ i j t)).2.1)), .inr (.inl ((ge_pp (jn_alp σ i j t)).1)), .inr (.inr 103)]) rfl ?_
              refine jw_W_ldiv rfl (by unfold jw_rgl; omega) (by omega) ?_
              rw [f3]
              refine jw_W_n 2 (i' := 107) (ls' := [some (.inr (.inr 103)), some (.inl i), some (.inl j), some (.inl t), some (.inr (.inl ((10 - t) * (σ 135 j)))), none, some (.inr (.inl (t * (σ 135 i)))), none, some (.inr (.inl ((jn_alp σ i j t).1))), none, some (.inr (.inl ((jn_alp σ i j t).2.1))), none, some (.inr (.inl ((jn_alp σ i j t).2.2.1))), none, some (.inr (.inl ((jn_alp σ i j t).2.2.2))), none, some (.inr (.inl (((Int.gcd (((Int.gcd ((jn_alp σ i j t).1) ((jn_alp σ i j t).2.1) : Nat) : Int)) (((Int.gcd ((jn_alp σ i j t).2.2.1) ((jn_alp σ i j t).2.2.2) : Nat) : Int)) : Nat) : Int)))), none]) (st' := [.inr (.inl (((Int.gcd (((Int.gcd ((jn_alp σ i j t).1) ((jn_alp σ i j t).2.1) : Nat) : Int)) (((Int.gcd ((jn_alp σ i j t).2.2.1) ((jn_alp σ i j t).2.2.2) : Nat) : Int)) : Nat) : Int))), .inr (.inl ((jn_alp σ i j t).2.2.2)), .inr (.inl ((ge_pp (jn_alp σ i j t)).2.2.1)), .inr (.inl ((ge_pp (jn_alp σ i j t)).2.1)), .inr (.inl ((ge_pp (jn_alp σ i j t)).1)), .inr (.inr 103)]) rfl ?_
              refine jw_W_ldiv rfl (by unfold jw_rgl; omega) (by omega) ?_
              rw [f4]
              have hpp := ge_pp_ok (v := jn_alp σ i j t) m8
              have hFp : ge_F (jm_RR (σ 103 3) (jm_bA σ)) (ge_pp (jn_alp σ i j t)) := jn_e_F (ge_e_sym hpp.1) hpp.2.2 hF
              have hT : (ge_pp (jn_alp σ i j t)).2.2.2 ≤ 262440 := Int.le_trans (jn_pp_w (v := jn_alp σ i j t) m8) (by show 10 * σ 135 i * σ 135 j ≤ 262440; omega)
              refine jw_W_call (as := [.inr (.inr 103), .inr (.inl ((ge_pp (jn_alp σ i j t)).1)), .inr (.inl ((ge_pp (jn_alp σ i j t)).2.1)), .inr (.inl ((ge_pp (jn_alp σ i j t)).2.2.1)), .inr (.inl ((ge_pp (jn_alp σ i j t)).2.2.2))]) (rest := []) rfl rfl rfl rfl (Nat.le_of_ble_eq_true rfl) (.inr rfl) (jm_isEfficient hPm hKN.1.2.2.2.2.1 hKN.1.2.1 (T := (ge_pp (jn_alp σ i j t)).2.2.2) hT hFp) (by omega) ?_ rfl
              rintro r1 σ1 ⟨v, rfl, hfe, hv⟩
              have hv01 : v = 0 ∨ v = 1 := by rcases hv with ⟨e, -⟩ | ⟨e, -⟩ <;> omega
              have hee : jm_Ef σ ((ge_pp (jn_alp σ i j t)).1, (ge_pp (jn_alp σ i j t)).2.1, (ge_pp (jn_alp σ i j t)).2.2.1, (ge_pp (jn_alp σ i j t)).2.2.2) ↔ jm_Ef σ (jn_alp σ i j t) := jn_e_Ef hpp.1 hpp.2.2 m8
              show jw_W (js_S n) _ md_316 109 [some (.inr (.inr 103)), some (.inl i), some (.inl j), some (.inl t), some (.inr (.inl ((10 - t) * (σ 135 j)))), none, some (.inr (.inl (t * (σ 135 i)))), none, some (.inr (.inl ((jn_alp σ i j t).1))), none, some (.inr (.inl ((jn_alp σ i j t).2.1))), none, some (.inr (.inl ((jn_alp σ i j t).2.2.1))), none, some (.inr (.inl ((jn_alp σ i j t).2.2.2))), none, some (.inr (.inl (((Int.gcd (((Int.gcd ((jn_alp σ i j t).1) ((jn_alp σ i j t).2.1) : Nat) : Int)) (((Int.gcd ((jn_alp σ i j t).2.2.1) ((jn_alp σ i j t).2.2.2) : Nat) : Int)) : Nat) : Int)))), none] [.inl v] σ1 _
              refine jw_W_if rfl (by unfold jw_rg; omega) (fun hc4 => ?_) (fun hc4 => ?_)
              · have hc4 : v = 0 := hc4
                refine jw_W_n 1 (i' := 113) (ls' := [some (.inr (.inr 103)), some (.inl i), some (.inl j), some (.inl t), some (.inr (.inl ((10 - t) * (σ 135 j)))), none, some (.inr (.inl (t * (σ 135 i)))), none, some (.inr (.inl ((jn_alp σ i j t).1))), none, some (.inr (.inl ((jn_alp σ i j t).2.1))), none, some (.inr (.inl ((jn_alp σ i j t).2.2.1))), none, some (.inr (.inl ((jn_alp σ i j t).2.2.2))), none, some (.inr (.inl (((Int.gcd (((Int.gcd ((jn_alp σ i j t).1) ((jn_alp σ i j t).2.1) : Nat) : Int)) (((Int.gcd ((jn_alp σ i j t).2.2.1) ((jn_alp σ i j t).2.2.2) : Nat) : Int)) : Nat) : Int)))), none]) (st' := [.inl 1]) rfl ?_
                refine jw_W_ir rfl ?_
                exact ⟨_, rfl, jm_fe_z hfe, .inr ⟨⟨by omega, by omega, by omega, by omega⟩, .inr ⟨rfl, hee.mp (hv.resolve_left (fun hh => by omega)).2⟩⟩⟩
              · have hc4 : ¬ (v = 0) := hc4
                refine jw_W_n 2 (i' := 113) (ls' := [some (.inr (.inr 103)), some (.inl i), some (.inl j), some (.inl t), some (.inr (.inl ((10 - t) * (σ 135 j)))), none, some (.inr (.inl (t * (σ 135 i)))), none, some (.inr (.inl ((jn_alp σ i j t).1))), none, some (.inr (.inl ((jn_alp σ i j t).2.1))), none, some (.inr (.inl ((jn_alp σ i j t).2.2.1))), none, some (.inr (.inl ((jn_alp σ i j t).2.2.2))), none, some (.inr (.inl (((Int.gcd (((Int.gcd ((jn_alp σ i j t).1) ((jn_alp σ i j t).2.1) : Nat) : Int)) (((Int.gcd ((jn_alp σ i j t).2.2.1) ((jn_alp σ i j t).2.2.2) : Nat) : Int)) : Nat) : Int)))), none]) (st' := [.inl 2]) rfl ?_
                refine jw_W_ir rfl ?_
                exact ⟨_, rfl, jm_fe_z hfe, .inr ⟨⟨by omega, by omega, by omega, by omega⟩, .inl ⟨rfl, fun hh => (hv.resolve_right (fun hh => by omega)).2 (hee.mpr hh)⟩⟩⟩
            · exact absurd hc3 (show ¬ ¬ ((1 : Int) ≠ 0) by omega)
          · rw [hs]
            show jw_W (js_S n) _ md_316 12 [some (.inr (.inr 103)), some (.inl i), some (.inl j), some (.inl t), none, none, none, none, none, none, none, none, none, none, none, none, none, none] [.inl 0] σ _
            refine jw_W_if rfl (by unfold jw_rg; omega) (fun hc5 => ?_) (fun hc5 => ?_)
            · exact absurd hc5 (show ¬ ((0 : Int) ≠ 0) by omega)
            · clear hc5
              refine jw_W_n 1 (i' := 14) (ls' := [some (.inr (.inr 103)), some (.inl i), some (.inl j), some (.inl t), none, none, none, none, none, none, none, none, none, none, none, none, none, none]) (st' := [.inl ((-1))]) rfl ?_
              refine jw_W_ir rfl ?_
              exact ⟨_, rfl, jm_fz_rf hKN, .inl ⟨rfl, fun hh => by unfold jn_alc at hh; omega⟩⟩
      · rw [hs]
        show jw_W (js_S n) _ md_316 7 [some (.inr (.inr 103)), some (.inl i), some (.inl j), some (.inl t), none, none, none, none, none, none, none, none, none, none, none, none, none, none] [.inl 0] σ _
        refine jw_W_if rfl (by unfold jw_rg; omega) (fun hc6 => ?_) (fun hc6 => ?_)
        · clear hc6
          refine jw_W_n 1 (i' := 14) (ls' := [some (.inr (.inr 103)), some (.inl i), some (.inl j), some (.inl t), none, none, none, none, none, none, none, none, none, none, none, none, none, none]) (st' := [.inl ((-1))]) rfl ?_
          refine jw_W_ir rfl ?_
          exact ⟨_, rfl, jm_fz_rf hKN, .inl ⟨rfl, fun hh => by unfold jn_alc at hh; omega⟩⟩
        · exact absurd hc6 (show ¬ ¬ ((0 : Int) = 0) by omega)
  · rw [hs]
    show jw_W (js_S n) _ md_316 3 [some (.inr (.inr 103)), some (.inl i), some (.inl j), some (.inl t), none, none, none, none, none, none, none, none, none, none, none, none, none, none] [.inl 0] σ _
    refine jw_W_if rfl (by unfold jw_rg; omega) (fun hc7 => ?_) (fun hc7 => ?_)
    · clear hc7
      refine jw_W_n 1 (i' := 14) (ls' := [some (.inr (.inr 103)), some (.inl i), some (.inl j), some (.inl t), none, none, none, none, none, none, none, none, none, none, none, none, none, none]) (st' := [.inl ((-1))]) rfl ?_
      refine jw_W_ir rfl ?_
      exact ⟨_, rfl, jm_fz_rf hKN, .inl ⟨rfl, fun hh => by unfold jn_alc at hh; omega⟩⟩
    · exact absurd hc7 (show ¬ ¬ ((0 : Int) = 0) by omega)

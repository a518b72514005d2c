/-! ===== the reference tells what is weak ===== -/
/-- an allowed plan has no wish less and this one more -/
def jm_up1 (σ : jw_H) (p : ge_R) (f : ge_D) : Prop := ∃ q, ge_F (jm_RR (σ 103 3) (jm_bA σ)) q ∧ (∀ g ∈ jm_F σ, ge_f g p * q.2.2.2 ≤ ge_f g q * p.2.2.2) ∧ ge_f f p * q.2.2.2 < ge_f f q * p.2.2.2
theorem jm_up1_T {σ : jw_H} {T x y z : Int} {f : ge_D} (T0 : 0 < T) : jm_up1 σ (x, y, z, T) f ↔ ∃ q, ge_F (jm_RR (σ 103 3) (jm_bT T (jm_bA σ))) q ∧ (∀ g ∈ jm_F σ, ge_f g (x, y, z, 1) * q.2.2.2 ≤ ge_f g q * (x, y, z, 1).2.2.2) ∧ ge_f f (x, y, z, 1) * q.2.2.2 < ge_f f q * (x, y, z, 1).2.2.2 := by
  have e1 : ∀ f : ge_D, ge_f f (x, y, z, T) = ge_f f (x, y, z, 1) := fun f => rfl
  constructor
  · rintro ⟨q, hq, h1, h2⟩
    refine ⟨ge_s4 T q, (ge_F_T T0).mpr hq, fun g hg => ?_, ?_⟩
    · have := h1 g hg
      rw [ge_f_s4, ← e1, Int.mul_one, Int.mul_comm T]
      exact this
    · rw [ge_f_s4, ← e1, Int.mul_one, Int.mul_comm T]
      exact h2
  · rintro ⟨q, hq, h1, h2⟩
    have wq := hq.1
    have hw : 0 < T * q.2.2.2 := Int.mul_pos T0 wq
    have es : ge_s4 T (q.1, q.2.1, q.2.2.1, T * q.2.2.2) = (T * q.1, T * q.2.1, T * q.2.2.1, T * q.2.2.2) := rfl
    have hF : ge_F (jm_RR (σ 103 3) (jm_bT T (jm_bA σ))) (ge_s4 T (q.1, q.2.1, q.2.2.1, T * q.2.2.2)) := by
      refine ⟨hw, fun r hr => ?_⟩
      have := hq.2 r hr
      have e : ge_s r (ge_s4 T (q.1, q.2.1, q.2.2.1, T * q.2.2.2)) = T * ge_s r q := by
        rw [es]
        simp only [ge_s]
        grind
      rw [e]
      exact ge_mul_pn (Int.le_of_lt T0) this
    refine ⟨(q.1, q.2.1, q.2.2.1, T * q.2.2.2), (ge_F_T T0).mp hF, fun g hg => ?_, ?_⟩
    · have := h1 g hg
      have a := Int.mul_le_mul_of_nonneg_right this (Int.le_of_lt T0)
      have e2 : ge_f g (q.1, q.2.1, q.2.2.1, T * q.2.2.2) = ge_f g q := rfl
      rw [e1, e2]
      simp only [Int.mul_one] at a ⊢
      have e3 : ge_f g (x, y, z, 1) * q.2.2.2 * T = ge_f g (x, y, z, 1) * (T * q.2.2.2) := by grind
      omega
    · have a := Int.mul_lt_mul_of_pos_right h2 T0
      have e2 : ge_f f (q.1, q.2.1, q.2.2.1, T * q.2.2.2) = ge_f f q := rfl
      rw [e1, e2]
      simp only [Int.mul_one] at a ⊢
      have e3 : ge_f f (x, y, z, 1) * q.2.2.2 * T = ge_f f (x, y, z, 1) * (T * q.2.2.2) := by grind
      omega
theorem ge_f_e {p q : ge_R} (f : ge_D) (h : ge_e p q) : ge_f f p * q.2.2.2 = ge_f f q * p.2.2.2 := by
  obtain ⟨h1, h2, h3⟩ := h
  simp only [ge_f]
  grind
theorem jm_p1_F {σ : jw_H} {T x y z : Int} (T0 : 0 < T) (hp : ge_F (jm_RR (σ 103 3) (jm_bA σ)) (x, y, z, T)) : ge_F (jm_RR (σ 103 3) (jm_bT T (jm_bA σ))) (x, y, z, 1) := by
  have h := (ge_F_T T0).mpr hp
  refine ⟨by show (0 : Int) < 1; omega, fun r hr => ?_⟩
  have h2 := h.2 r hr
  have e : ge_s r (ge_s4 T (x, y, z, T)) = T * ge_s r (x, y, z, 1) := by
    simp only [ge_s, ge_s4]
    grind
  rw [e] at h2
  apply Classical.byContradiction
  intro hc
  have := Int.mul_pos T0 (show 0 < ge_s r (x, y, z, 1) by omega)
  omega
/-- a point has more of this wish -/
def jm_mr (σ : jw_H) (x y z k j : Int) : Prop := ge_f (jm_W σ k) (x, y, z, 1) * σ 128 j < ge_f (jm_W σ k) (jm_pt σ j)
theorem jm_weak_eq {σ σ1 : jw_H} {T x y z k : Int} (hP : jm_Pb σ) (hI : jm_fr2 σ σ1) (T0 : 0 < T) (hp : ge_F (jm_RR (σ 103 3) (jm_bA σ)) (x, y, z, T)) (hm : ∃ L, jm_is σ1 L ∧ (∀ x' ∈ L, ge_V (ge_up_R (jm_RR (σ 103 3) (jm_bT T (jm_bA σ))) (jm_F σ) (x, y, z, 1)) x'.1) ∧ ∀ v, ge_V (ge_up_R (jm_RR (σ 103 3) (jm_bT T (jm_bA σ))) (jm_F σ) (x, y, z, 1)) v → ∃ x' ∈ L, ge_e x'.1 v) : (∃ j, 0 ≤ j ∧ j < σ1 103 46 ∧ jm_mr σ1 x y z k j) ↔ jm_up1 σ (x, y, z, T) (jm_W σ k) := by
  have hB : ge_B (jm_RR (σ 103 3) (jm_bT T (jm_bA σ))) := ge_B_T (jm_bA_B hP)
  have hpT := jm_p1_F T0 hp
  obtain ⟨L, hL, hV, hA⟩ := hm
  rw [jm_up1_T T0]
  unfold jm_mr
  rw [jm_W_fr hI]
  constructor
  · rintro ⟨j, j0, j1, h⟩
    have h3 : j.toNat < L.length := by have := hL.1; omega
    have hbx := (hL.2 _ _ (List.getElem?_eq_getElem h3)).1
    rw [Int.toNat_of_nonneg j0] at hbx
    have hVb := hV _ (List.getElem_mem h3)
    rw [← hbx] at hVb
    have h4 := (ge_up_F (F := jm_F σ) (p := (x, y, z, 1)) rfl).mp hVb.1
    refine ⟨jm_pt σ1 j, h4.1, h4.2, ?_⟩
    simp only [Int.mul_one]
    exact h
  · rintro ⟨q, hq, h1, h2⟩
    obtain ⟨v, a1, a2, a3, a4⟩ := ge_vert (ge_B_app (Q := (jm_F σ).map (fun f => ge_no f (x, y, z, 1))) hB) (jm_W σ k) ((ge_up_F rfl).mpr ⟨hq, h1⟩)
    obtain ⟨x', hx', he⟩ := hA v a1
    obtain ⟨i, hi⟩ := List.getElem?_of_mem hx'
    have hil := (List.getElem?_eq_some_iff.mp hi).1
    have wx := (hV x' hx').1.1
    have e := ge_f_e (jm_W σ k) he
    have h7 := ge_fr_lt (a := ge_f (jm_W σ k) (x, y, z, 1)) (n := 1) (b := ge_f (jm_W σ k) q) (m := q.2.2.2) (c := ge_f (jm_W σ k) v) (k := v.2.2.2) (by omega) hq.1 a1.1.1 (by simp only [Int.mul_one] at h2 ⊢; omega) (by omega) (.inl (by simp only [Int.mul_one] at h2 ⊢; omega))
    have h8 := ge_fr_lt (a := ge_f (jm_W σ k) (x, y, z, 1)) (n := 1) (b := ge_f (jm_W σ k) v) (m := v.2.2.2) (c := ge_f (jm_W σ k) x'.1) (k := x'.1.2.2.2) (by omega) a1.1.1 wx (by omega) (by omega) (.inl h7)
    have ept := (hL.2 i x' hi).1
    refine ⟨(i : Int), by omega, by rw [hL.1]; omega, ?_⟩
    have e128 : σ1 128 (i : Int) = (jm_pt σ1 (i : Int)).2.2.2 := rfl
    rw [e128, ept]
    omega
def jm_mo (σ : jw_H) (x y z k t m : Int) : Prop := (m = 1 ∧ ∃ j, 0 ≤ j ∧ j < t ∧ jm_mr σ x y z k j) ∨ (m = 0 ∧ ∀ j, 0 ≤ j → j < t → ¬ jm_mr σ x y z k j)
theorem jm_mo_1 {σ : jw_H} {x y z k t m : Int} (t0 : 0 ≤ t) (h : jm_mo σ x y z k t m) (hc : m ≠ 0 ∨ jm_mr σ x y z k t) : jm_mo σ x y z k (t + 1) 1 := by
  rcases h with ⟨-, j, j0, j1, h⟩ | ⟨h0, -⟩
  · exact .inl ⟨rfl, j, j0, by omega, h⟩
  · rcases hc with hc | hc
    · exact absurd h0 hc
    · exact .inl ⟨rfl, t, t0, by omega, hc⟩
theorem jm_mo_0 {σ : jw_H} {x y z k t m : Int} (h : jm_mo σ x y z k t m) (hm : m = 0) (hc : ¬ jm_mr σ x y z k t) : jm_mo σ x y z k (t + 1) 0 := by
  rcases h with ⟨h1, -⟩ | ⟨-, h⟩
  · omega
  · refine .inr ⟨rfl, fun j j0 j1 => ?_⟩
    by_cases e : j = t
    · rw [e]
      exact hc
    · exact h j j0 (by omega)
theorem jm_wk_in {n : Nat} {σ : jw_H} {D : Nat} {x y z T k i : Int} {Q : Option jw_V → jw_H → Prop} (hD : 2 ≤ D) (hP : jm_Pb σ) (hb : jm_pb σ) (k0 : 0 ≤ k) (k1 : k < σ 103 4) (hv : jm_in4 382637520 (x, y, z, 1)) (hQ : ∀ m, jm_mo σ x y z k (σ 103 46) m → jw_W (js_S n) D md_253 70 [some (.inr (.inr 103)), some (.inl i), some (.inr (.inl T)), none, some (.inl k), some (.inr (.inl (ge_f (jm_W σ k) (x, y, z, 1)))), none, some (.inl m), some (.inl (σ 103 46))] [] σ Q) : ∀ (f : Nat) {t m : Int}, 0 ≤ t → t + f = σ 103 46 → jm_mo σ x y z k t m → jw_W (js_S n) D md_253 46 [some (.inr (.inr 103)), some (.inl i), some (.inr (.inl T)), none, some (.inl k), some (.inr (.inl (ge_f (jm_W σ k) (x, y, z, 1)))), none, some (.inl m), some (.inl t)] [] σ Q
  | f, t, m, t0, hk, hI => by
    have ih : ∀ {m' : Int}, t < σ 103 46 → jm_mo σ x y z k (t + 1) m' → jw_W (js_S n) D md_253 46 [some (.inr (.inr 103)), some (.inl i), some (.inr (.inl T)), none, some (.inl k), some (.inr (.inl (ge_f (jm_W σ k) (x, y, z, 1)))), none, some (.inl m'), some (.inl (t + 1))] [] σ Q := by
      intro m' h1 h2
      match f, hk with
      | 0, hk => omega
      | f + 1, hk => exact jm_wk_in hD hP hb k0 k1 hv hQ f (by omega) (by omega) h2
    have hm := hb.1
    have m01 : m = 0 ∨ m = 1 := by
      rcases hI with ⟨h, -⟩ | ⟨h, -⟩
      · exact .inr h
      · exact .inl h
    refine jw_W_n 2 (i' := 48) (ls' := [some (.inr (.inr 103)), some (.inl i), some (.inr (.inl T)), none, some (.inl k), some (.inr (.inl (ge_f (jm_W σ k) (x, y, z, 1)))), none, some (.inl m), some (.inl t)]) (st' := [.inr (.inr 103), .inl t]) rfl ?_
    refine jw_W_gf rfl rfl rfl ?_
    show jw_W (js_S n) _ md_253 49 [some (.inr (.inr 103)), some (.inl i), some (.inr (.inl T)), none, some (.inl k), some (.inr (.inl (ge_f (jm_W σ k) (x, y, z, 1)))), none, some (.inl m), some (.inl t)] [.inl (σ 103 46), .inl t] σ _
    refine jw_W_ic rfl (by unfold jw_rg; omega) (by unfold jw_rg; omega) (fun hc1 => ?_) (fun hc1 => ?_)
    · have hc1 : t ≥ (σ 103 46) := hc1
      have htl : t = σ 103 46 := by omega
      subst htl
      exact hQ m hI
    · have hc1 : ¬ (t ≥ (σ 103 46)) := hc1
      refine jw_W_n 1 (i' := 51) (ls' := [some (.inr (.inr 103)), some (.inl i), some (.inr (.inl T)), none, some (.inl k), some (.inr (.inl (ge_f (jm_W σ k) (x, y, z, 1)))), none, some (.inl m), some (.inl t)]) (st' := [.inl m]) rfl ?_
      refine jw_W_if rfl (by unfold jw_rg; omega) (fun hc2 => ?_) (fun hc2 => ?_)
      · have hc2 : m ≠ 0 := hc2
        refine jw_W_n 5 (i' := 46) (ls' := [some (.inr (.inr 103)), some (.inl i), some (.inr (.inl T)), none, some (.inl k), some (.inr (.inl (ge_f (jm_W σ k) (x, y, z, 1)))), none, some (.inl 1), some (.inl (t + 1))]) (st' := []) rfl ?_
        exact ih (by omega) (jm_mo_1 t0 hI (by first | exact .inl (by assumption) | exact .inr (by unfold jm_mr; omega)))
      · have hc2 : m = 0 := Classical.not_not.mp hc2
        refine jw_W_n 3 (i' := 55) (ls' := [some (.inr (.inr 103)), some (.inl i), some (.inr (.inl T)), none, some (.inl k), some (.inr (.inl (ge_f (jm_W σ k) (x, y, z, 1)))), none, some (.inl m), some (.inl t)]) (st' := [.inl t, .inl k, .inr (.inr 103)]) rfl ?_
        refine jw_W_call (as := [.inr (.inr 103), .inl k, .inl t]) (rest := []) rfl rfl rfl rfl (Nat.le_of_ble_eq_true rfl) (.inr rfl) (jm_wishedAt hP k0 k1 t0 (by omega)) (by omega) ?_ rfl
        rintro r1 σ1 ⟨rfl, hs⟩
        rw [hs]
        have tm : t < σ 103 46 := by omega
        have f1 := jm_f_bd (jm_W_sm hP k0 k1) (hb.2 t t0 tm).1
        have f2 := jm_f_bd (jm_W_sm hP k0 k1) hv
        have w1 : 0 < σ 128 t := (hb.2 t t0 tm).1.2.2.2.1
        have w2 : σ 128 t ≤ 162 := (hb.2 t t0 tm).2
        have f3 := jm_ab2 (a := ge_f (jm_W σ k) (x, y, z, 1)) (S := 3443737680) (X := 162) (by omega) (by omega) (by omega) (Int.le_of_lt w1) w2
        show jw_W (js_S n) _ md_253 56 [some (.inr (.inr 103)), some (.inl i), some (.inr (.inl T)), none, some (.inl k), some (.inr (.inl (ge_f (jm_W σ k) (x, y, z, 1)))), none, some (.inl m), some (.inl t)] [.inr (.inl (ge_f (jm_W σ k) (jm_pt σ t)))] σ _
        refine jw_W_n 2 (i' := 58) (ls' := [some (.inr (.inr 103)), some (.inl i), some (.inr (.inl T)), none, some (.inl k), some (.inr (.inl (ge_f (jm_W σ k) (x, y, z, 1)))), none, some (.inl m), some (.inl t)]) (st' := [.inr (.inr 103), .inr (.inl (ge_f (jm_W σ k) (x, y, z, 1))), .inr (.inl (ge_f (jm_W σ k) (jm_pt σ t)))]) rfl ?_
        refine jw_W_gf rfl rfl rfl ?_
        show jw_W (js_S n) _ md_253 59 [some (.inr (.inr 103)), some (.inl i), some (.inr (.inl T)), none, some (.inl k), some (.inr (.inl (ge_f (jm_W σ k) (x, y, z, 1)))), none, some (.inl m), some (.inl t)] [.inr (.inr 128), .inr (.inl (ge_f (jm_W σ k) (x, y, z, 1))), .inr (.inl (ge_f (jm_W σ k) (jm_pt σ t)))] σ _
        refine jw_W_n 1 (i' := 60) (ls' := [some (.inr (.inr 103)), some (.inl i), some (.inr (.inl T)), none, some (.inl k), some (.inr (.inl (ge_f (jm_W σ k) (x, y, z, 1)))), none, some (.inl m), some (.inl t)]) (st' := [.inl t, .inr (.inr 128), .inr (.inl (ge_f (jm_W σ k) (x, y, z, 1))), .inr (.inl (ge_f (jm_W σ k) (jm_pt σ t)))]) rfl ?_
        refine jw_W_la rfl rfl (by omega) (by omega) (by omega) ?_
        show jw_W (js_S n) _ md_253 61 [some (.inr (.inr 103)), some (.inl i), some (.inr (.inl T)), none, some (.inl k), some (.inr (.inl (ge_f (jm_W σ k) (x, y, z, 1)))), none, some (.inl m), some (.inl t)] [.inr (.inl (σ 128 t)), .inr (.inl (ge_f (jm_W σ k) (x, y, z, 1))), .inr (.inl (ge_f (jm_W σ k) (jm_pt σ t)))] σ _
        refine jw_W_n 1 (i' := 62) (ls' := [some (.inr (.inr 103)), some (.inl i), some (.inr (.inl T)), none, some (.inl k), some (.inr (.inl (ge_f (jm_W σ k) (x, y, z, 1)))), none, some (.inl m), some (.inl t)]) (st' := [.inr (.inl ((ge_f (jm_W σ k) (x, y, z, 1)) * (σ 128 t))), .inr (.inl (ge_f (jm_W σ k) (jm_pt σ t)))]) rfl ?_
        refine jw_W_lc rfl rfl (by unfold jw_rgl; omega) (by unfold jw_rgl; omega) (fun hc3 => ?_) (fun hc3 => ?_)
        · have hc3 : (ge_f (jm_W σ k) (jm_pt σ t)) ≤ ((ge_f (jm_W σ k) (x, y, z, 1)) * (σ 128 t)) := hc3
          refine jw_W_n 4 (i' := 46) (ls' := [some (.inr (.inr 103)), some (.inl i), some (.inr (.inl T)), none, some (.inl k), some (.inr (.inl (ge_f (jm_W σ k) (x, y, z, 1)))), none, some (.inl 0), some (.inl (t + 1))]) (st' := []) rfl ?_
          exact ih (by omega) (jm_mo_0 hI (by omega) (by unfold jm_mr; omega))
        · have hc3 : ¬ ((ge_f (jm_W σ k) (jm_pt σ t)) ≤ ((ge_f (jm_W σ k) (x, y, z, 1)) * (σ 128 t))) := hc3
          refine jw_W_n 5 (i' := 46) (ls' := [some (.inr (.inr 103)), some (.inl i), some (.inr (.inl T)), none, some (.inl k), some (.inr (.inl (ge_f (jm_W σ k) (x, y, z, 1)))), none, some (.inl 1), some (.inl (t + 1))]) (st' := []) rfl ?_
          exact ih (by omega) (jm_mo_1 t0 hI (by first | exact .inl (by assumption) | exact .inr (by unfold jm_mr; omega)))
theorem jm_wk_out {n : Nat} {σ : jw_H} {D : Nat} {x y z T i : Int} {Q : Option jw_V → jw_H → Prop} (hD : 2 ≤ D) (hP : jm_Pb σ) (hb : jm_pb σ) (hv : jm_in4 382637520 (x, y, z, 1)) (c1 : σ 132 i = x) (c2 : σ 133 i = y) (c3 : σ 134 i = z) (i0 : 0 ≤ i) (i1 : i < 20) (hQ1 : ∀ k, 0 ≤ k → k < σ 103 4 → (∀ j, 0 ≤ j → j < σ 103 46 → ¬ jm_mr σ x y z k j) → Q (some (.inl 1)) σ) (hQ2 : ∀ k' b1 b2 b3 b4, (∀ k, 0 ≤ k → k < σ 103 4 → ∃ j, 0 ≤ j ∧ j < σ 103 46 ∧ jm_mr σ x y z k j) → jw_W (js_S n) D md_253 76 [some (.inr (.inr 103)), some (.inl i), some (.inr (.inl T)), none, some (.inl k'), b1, b2, b3, b4] [] σ Q) : ∀ (f : Nat) {k : Int} {a1 a2 a3 a4 : Option jw_V}, 0 ≤ k → k + f = σ 103 4 → (∀ k', 0 ≤ k' → k' < k → ∃ j, 0 ≤ j ∧ j < σ 103 46 ∧ jm_mr σ x y z k' j) → jw_W (js_S n) D md_253 22 [some (.inr (.inr 103)), some (.inl i), some (.inr (.inl T)), none, some (.inl k), a1, a2, a3, a4] [] σ Q
  | f, k, a1, a2, a3, a4, k0, hk, hI => by
    have ih : ∀ {b1 b2 b3 b4 : Option jw_V}, k < σ 103 4 → (∀ k', 0 ≤ k' → k' < k + 1 → ∃ j, 0 ≤ j ∧ j < σ 103 46 ∧ jm_mr σ x y z k' j) → jw_W (js_S n) D md_253 22 [some (.inr (.inr 103)), some (.inl i), some (.inr (.inl T)), none, some (.inl (k + 1)), b1, b2, b3, b4] [] σ Q := by
      intro b1 b2 b3 b4 h1 h2
      match f, hk with
      | 0, hk => omega
      | f + 1, hk => exact jm_wk_out hD hP hb hv c1 c2 c3 i0 i1 hQ1 hQ2 f (by omega) (by omega) h2
    have pw := hP.2.1
    refine jw_W_n 2 (i' := 24) (ls' := [some (.inr (.inr 103)), some (.inl i), some (.inr (.inl T)), none, some (.inl k), a1, a2, a3, a4]) (st' := [.inr (.inr 103), .inl k]) rfl ?_
    refine jw_W_gf rfl rfl rfl ?_
    show jw_W (js_S n) _ md_253 25 [some (.inr (.inr 103)), some (.inl i), some (.inr (.inl T)), none, some (.inl k), a1, a2, a3, a4] [.inl (σ 103 4), .inl k] σ _
    refine jw_W_ic rfl (by unfold jw_rg; omega) (by unfold jw_rg; omega) (fun hc1 => ?_) (fun hc1 => ?_)
    · have hc1 : k ≥ (σ 103 4) := hc1
      exact hQ2 _ _ _ _ _ (fun k' a b => hI k' a (by omega))
    · have hc1 : ¬ (k ≥ (σ 103 4)) := hc1
      refine jw_W_n 3 (i' := 29) (ls' := [some (.inr (.inr 103)), some (.inl i), some (.inr (.inl T)), none, some (.inl k), a1, a2, a3, a4]) (st' := [.inr (.inr 103), .inl k, .inr (.inr 103)]) rfl ?_
      refine jw_W_gf rfl rfl rfl ?_
      show jw_W (js_S n) _ md_253 30 [some (.inr (.inr 103)), some (.inl i), some (.inr (.inl T)), none, some (.inl k), a1, a2, a3, a4] [.inr (.inr 132), .inl k, .inr (.inr 103)] σ _
      refine jw_W_n 1 (i' := 31) (ls' := [some (.inr (.inr 103)), some (.inl i), some (.inr (.inl T)), none, some (.inl k), a1, a2, a3, a4]) (st' := [.inl i, .inr (.inr 132), .inl k, .inr (.inr 103)]) rfl ?_
      refine jw_W_la rfl rfl (by omega) (by omega) (by omega) ?_
      show jw_W (js_S n) _ md_253 32 [some (.inr (.inr 103)), some (.inl i), some (.inr (.inl T)), none, some (.inl k), a1, a2, a3, a4] [.inr (.inl (σ 132 i)), .inl k, .inr (.inr 103)] σ _
      rw [c1]
      refine jw_W_n 1 (i' := 33) (ls' := [some (.inr (.inr 103)), some (.inl i), some (.inr (.inl T)), none, some (.inl k), a1, a2, a3, a4]) (st' := [.inr (.inr 103), .inr (.inl x), .inl k, .inr (.inr 103)]) rfl ?_
      refine jw_W_gf rfl rfl rfl ?_
      show jw_W (js_S n) _ md_253 34 [some (.inr (.inr 103)), some (.inl i), some (.inr (.inl T)), none, some (.inl k), a1, a2, a3, a4] [.inr (.inr 133), .inr (.inl x), .inl k, .inr (.inr 103)] σ _
      refine jw_W_n 1 (i' := 35) (ls' := [some (.inr (.inr 103)), some (.inl i), some (.inr (.inl T)), none, some (.inl k), a1, a2, a3, a4]) (st' := [.inl i, .inr (.inr 133), .inr (.inl x), .inl k, .inr (.inr 103)]) rfl ?_
      refine jw_W_la rfl rfl (by omega) (by omega) (by omega) ?_
      show jw_W (js_S n) _ md_253 36 [some (.inr (.inr 103)), some (.inl i), some (.inr (.inl T)), none, some (.inl k), a1, a2, a3, a4] [.inr (.inl (σ 133 i)), .inr (.inl x), .inl k, .inr (.inr 103)] σ _
      rw [c2]
      refine jw_W_n 1 (i' := 37) (ls' := [some (.inr (.inr 103)), some (.inl i), some (.inr (.inl T)), none, some (.inl k), a1, a2, a3, a4]) (st' := [.inr (.inr 103), .inr (.inl y), .inr (.inl x), .inl k, .inr (.inr 103)]) rfl ?_
      refine jw_W_gf rfl rfl rfl ?_
      show jw_W (js_S n) _ md_253 38 [some (.inr (.inr 103)), some (.inl i), some (.inr (.inl T)), none, some (.inl k), a1, a2, a3, a4] [.inr (.inr 134), .inr (.inl y), .inr (.inl x), .inl k, .inr (.inr 103)] σ _
      refine jw_W_n 1 (i' := 39) (ls' := [some (.inr (.inr 103)), some (.inl i), some (.inr (.inl T)), none, some (.inl k), a1, a2, a3, a4]) (st' := [.inl i, .inr (.inr 134), .inr (.inl y), .inr (.inl x), .inl k, .inr (.inr 103)]) rfl ?_
      refine jw_W_la rfl rfl (by omega) (by omega) (by omega) ?_
      show jw_W (js_S n) _ md_253 40 [some (.inr (.inr 103)), some (.inl i), some (.inr (.inl T)), none, some (.inl k), a1, a2, a3, a4] [.inr (.inl (σ 134 i)), .inr (.inl y), .inr (.inl x), .inl k, .inr (.inr 103)] σ _
      rw [c3]
      refine jw_W_call (as := [.inr (.inr 103), .inl k, .inr (.inl x), .inr (.inl y), .inr (.inl z)]) (rest := []) rfl rfl rfl rfl (Nat.le_of_ble_eq_true rfl) (.inr rfl) (jm_wished hP k0 (by omega)) (by omega) ?_ rfl
      rintro r1 σ1 ⟨rfl, hs⟩
      rw [hs]
      show jw_W (js_S n) _ md_253 41 [some (.inr (.inr 103)), some (.inl i), some (.inr (.inl T)), none, some (.inl k), a1, a2, a3, a4] [.inr (.inl (ge_f (jm_W σ k) (x, y, z, 1)))] σ _
      refine jw_W_n 5 (i' := 46) (ls' := [some (.inr (.inr 103)), some (.inl i), some (.inr (.inl T)), none, some (.inl k), some (.inr (.inl (ge_f (jm_W σ k) (x, y, z, 1)))), none, some (.inl 0), some (.inl 0)]) (st' := []) rfl ?_
      have k1 : k < σ 103 4 := by omega
      refine jm_wk_in hD hP hb k0 k1 hv (fun m hmo => ?_) (σ 103 46).toNat (t := 0) (by omega) (by have := hb.1; omega) (.inr ⟨rfl, fun j j0 j1 => by omega⟩)
      have m01 : m = 0 ∨ m = 1 := by
        rcases hmo with ⟨h, -⟩ | ⟨h, -⟩
        · exact .inr h
        · exact .inl h
      refine jw_W_n 1 (i' := 71) (ls' := [some (.inr (.inr 103)), some (.inl i), some (.inr (.inl T)), none, some (.inl k), some (.inr (.inl (ge_f (jm_W σ k) (x, y, z, 1)))), none, some (.inl m), some (.inl (σ 103 46))]) (st' := [.inl m]) rfl ?_
      refine jw_W_if rfl (by unfold jw_rg; omega) (fun hc1 => ?_) (fun hc1 => ?_)
      · have hc1 : m ≠ 0 := hc1
        refine jw_W_n 2 (i' := 22) (ls' := [some (.inr (.inr 103)), some (.inl i), some (.inr (.inl T)), none, some (.inl (k + 1)), some (.inr (.inl (ge_f (jm_W σ k) (x, y, z, 1)))), none, some (.inl m), some (.inl (σ 103 46))]) (st' := []) rfl ?_
        exact ih (by omega) (fun k' a b => by
          by_cases e : k' = k
          · rw [e]
            rcases hmo with ⟨-, h⟩ | ⟨h, -⟩
            · exact h
            · omega
          · exact hI k' a (by omega))
      · have hc1 : m = 0 := Classical.not_not.mp hc1
        refine jw_W_n 1 (i' := 73) (ls' := [some (.inr (.inr 103)), some (.inl i), some (.inr (.inl T)), none, some (.inl k), some (.inr (.inl (ge_f (jm_W σ k) (x, y, z, 1)))), none, some (.inl m), some (.inl (σ 103 46))]) (st' := [.inl 1]) rfl ?_
        refine jw_W_ir rfl ?_
        exact hQ1 k k0 k1 (by
          rcases hmo with ⟨h, -⟩ | ⟨-, h⟩
          · omega
          · exact h)
def jm_Wk (σ : jw_H) (p : ge_R) : Prop := σ 103 4 = 0 ∨ ∃ k, 0 ≤ k ∧ k < σ 103 4 ∧ ¬ jm_up1 σ p (jm_W σ k)
theorem jm_isWeak {n : Nat} {σ : jw_H} {T x y z i : Int} {C : List (ge_R × Int)} (hP : jm_Pb σ) (hN : jm_Ns σ) (hK : jm_kn σ C) (T1 : T ≤ 262440) (hp : ge_F (jm_RR (σ 103 3) (jm_bA σ)) (x, y, z, T)) (i0 : 0 ≤ i) (i1 : i < 20) (c1 : σ 132 i = x) (c2 : σ 133 i = y) (c3 : σ 134 i = z) (c4 : σ 135 i = T) : jw_T (js_S n) 6 253 [.inr (.inr 103), .inl i] σ (fun r σ' => ∃ v, r = some (.inl v) ∧ jm_fe σ σ' ∧ (v = 1 ∧ jm_Wk σ (x, y, z, T) ∨ v = 0 ∧ ¬ jm_Wk σ (x, y, z, T))) := by
  refine jw_T_of (D := 5) (M := mm_253) rfl (Nat.le_of_ble_eq_true rfl) (ls0 := [some (.inr (.inr 103)), some (.inl i), none, none, none, none, none, none, none]) rfl ?_ (by rintro _ _ ⟨_, rfl, -, (⟨rfl, -⟩ | ⟨rfl, -⟩)⟩ <;> rfl)
  obtain ⟨hx, hy, hz⟩ := jm_F_bd hP hp
  have T0 : 0 < T := hp.1
  simp only at hx hy hz
  refine jw_W_n 1 (i' := 1) (ls' := [some (.inr (.inr 103)), some (.inl i), none, none, none, none, none, none, none]) (st' := [.inr (.inr 103)]) rfl ?_
  refine jw_W_gf rfl rfl rfl ?_
  show jw_W (js_S n) _ md_253 2 [some (.inr (.inr 103)), some (.inl i), none, none, none, none, none, none, none] [.inr (.inr 135)] σ _
  refine jw_W_n 1 (i' := 3) (ls' := [some (.inr (.inr 103)), some (.inl i), none, none, none, none, none, none, none]) (st' := [.inl i, .inr (.inr 135)]) rfl ?_
  refine jw_W_la rfl rfl (by omega) (by omega) (by omega) ?_
  show jw_W (js_S n) _ md_253 4 [some (.inr (.inr 103)), some (.inl i), none, none, none, none, none, none, none] [.inr (.inl (σ 135 i))] σ _
  rw [c4]
  refine jw_W_n 3 (i' := 7) (ls' := [some (.inr (.inr 103)), some (.inl i), some (.inr (.inl T)), none, none, none, none, none, none]) (st' := [.inr (.inr 103), .inr (.inr 103)]) rfl ?_
  refine jw_W_gf rfl rfl rfl ?_
  show jw_W (js_S n) _ md_253 8 [some (.inr (.inr 103)), some (.inl i), some (.inr (.inl T)), none, none, none, none, none, none] [.inr (.inr 132), .inr (.inr 103)] σ _
  refine jw_W_n 1 (i' := 9) (ls' := [some (.inr (.inr 103)), some (.inl i), some (.inr (.inl T)), none, none, none, none, none, none]) (st' := [.inl i, .inr (.inr 132), .inr (.inr 103)]) rfl ?_
  refine jw_W_la rfl rfl (by omega) (by omega) (by omega) ?_
  show jw_W (js_S n) _ md_253 10 [some (.inr (.inr 103)), some (.inl i), some (.inr (.inl T)), none, none, none, none, none, none] [.inr (.inl (σ 132 i)), .inr (.inr 103)] σ _
  rw [c1]
  refine jw_W_n 1 (i' := 11) (ls' := [some (.inr (.inr 103)), some (.inl i), some (.inr (.inl T)), none, none, none, none, none, none]) (st' := [.inr (.inr 103), .inr (.inl x), .inr (.inr 103)]) rfl ?_
  refine jw_W_gf rfl rfl rfl ?_
  show jw_W (js_S n) _ md_253 12 [some (.inr (.inr 103)), some (.inl i), some (.inr (.inl T)), none, none, none, none, none, none] [.inr (.inr 133), .inr (.inl x), .inr (.inr 103)] σ _
  refine jw_W_n 1 (i' := 13) (ls' := [some (.inr (.inr 103)), some (.inl i), some (.inr (.inl T)), none, none, none, none, none, none]) (st' := [.inl i, .inr (.inr 133), .inr (.inl x), .inr (.inr 103)]) rfl ?_
  refine jw_W_la rfl rfl (by omega) (by omega) (by omega) ?_
  show jw_W (js_S n) _ md_253 14 [some (.inr (.inr 103)), some (.inl i), some (.inr (.inl T)), none, none, none, none, none, none] [.inr (.inl (σ 133 i)), .inr (.inl x), .inr (.inr 103)] σ _
  rw [c2]
  refine jw_W_n 1 (i' := 15) (ls' := [some (.inr (.inr 103)), some (.inl i), some (.inr (.inl T)), none, none, none, none, none, none]) (st' := [.inr (.inr 103), .inr (.inl y), .inr (.inl x), .inr (.inr 103)]) rfl ?_
  refine jw_W_gf rfl rfl rfl ?_
  show jw_W (js_S n) _ md_253 16 [some (.inr (.inr 103)), some (.inl i), some (.inr (.inl T)), none, none, none, none, none, none] [.inr (.inr 134), .inr (.inl y), .inr (.inl x), .inr (.inr 103)] σ _
  refine jw_W_n 1 (i' := 17) (ls' := [some (.inr (.inr 103)), some (.inl i), some (.inr (.inl T)), none, none, none, none, none, none]) (st' := [.inl i, .inr (.inr 134), .inr (.inl y), .inr (.inl x), .inr (.inr 103)]) rfl ?_
  refine jw_W_la rfl rfl (by omega) (by omega) (by omega) ?_
  show jw_W (js_S n) _ md_253 18 [some (.inr (.inr 103)), some (.inl i), some (.inr (.inl T)), none, none, none, none, none, none] [.inr (.inl (σ 134 i)), .inr (.inl y), .inr (.inl x), .inr (.inr 103)] σ _
  rw [c3]
  refine jw_W_n 1 (i' := 19) (ls' := [some (.inr (.inr 103)), some (.inl i), some (.inr (.inl T)), none, none, none, none, none, none]) (st' := [.inr (.inl T), .inr (.inl z), .inr (.inl y), .inr (.inl x), .inr (.inr 103)]) rfl ?_
  refine jw_W_call (as := [.inr (.inr 103), .inr (.inl x), .inr (.inl y), .inr (.inl z), .inr (.inl T)]) (rest := []) rfl rfl rfl rfl (Nat.le_of_ble_eq_true rfl) (.inr rfl) (jm_cutsBelow hP hN hK T0 T1 hx hy hz) (by omega) ?_ rfl
  rintro r1 σ1 ⟨rfl, hI⟩
  rename jw_H => σ3
  obtain ⟨hpb, hm⟩ := jm_cb_pb hP T0 T1 hI
  have hP1 := jm_fr2_Pb hI.1 hP
  have hE := fun k => jm_weak_eq (k := k) hP hI.1 T0 hp hm
  have e4 : σ3 103 4 = σ 103 4 := hI.1.2 4 (by omega)
  have pw := hP.2.1
  show jw_W (js_S n) _ md_253 20 [some (.inr (.inr 103)), some (.inl i), some (.inr (.inl T)), none, none, none, none, none, none] [] σ3 _
  refine jw_W_n 2 (i' := 22) (ls' := [some (.inr (.inr 103)), some (.inl i), some (.inr (.inl T)), none, some (.inl 0), none, none, none, none]) (st' := []) rfl ?_
  have hw1 : ∀ k, 0 ≤ k → k < σ3 103 4 → (∀ j, 0 ≤ j → j < σ3 103 46 → ¬ jm_mr σ3 x y z k j) → jm_Wk σ (x, y, z, T) := fun k k0 k1 h => .inr ⟨k, k0, by omega, fun hu => by
    obtain ⟨j, j0, j1, hj⟩ := (hE k).mpr hu
    exact h j j0 j1 hj⟩
  refine jm_wk_out (D := 5) (x := x) (y := y) (z := z) (by omega) hP1 hpb (by unfold jm_in4; simp only; omega) (by rw [hI.1.1 132 (by omega) (by omega)]; exact c1) (by rw [hI.1.1 133 (by omega) (by omega)]; exact c2) (by rw [hI.1.1 134 (by omega) (by omega)]; exact c3) i0 i1 (fun k k0 k1 h => ⟨1, rfl, jm_cb_fe hI, .inl ⟨rfl, hw1 k k0 k1 h⟩⟩) (fun k' b1 b2 b3 b4 h => ?_) (σ3 103 4).toNat (k := 0) (by omega) (by omega) (fun k' a b => by omega)
  have hn : σ 103 4 ≠ 0 → ¬ jm_Wk σ (x, y, z, T) := fun h0 hw => by
    rcases hw with hw | ⟨k, k0, k1, hu⟩
    · exact h0 hw
    · exact hu ((hE k).mp (h k k0 (by omega)))
  refine jw_W_n 1 (i' := 77) (ls' := [some (.inr (.inr 103)), some (.inl i), some (.inr (.inl T)), none, some (.inl k'), b1, b2, b3, b4]) (st' := [.inr (.inr 103)]) rfl ?_
  refine jw_W_gf rfl rfl rfl ?_
  show jw_W (js_S n) _ md_253 78 [some (.inr (.inr 103)), some (.inl i), some (.inr (.inl T)), none, some (.inl k'), b1, b2, b3, b4] [.inl (σ3 103 4)] σ3 _
  refine jw_W_if rfl (by unfold jw_rg; omega) (fun hc1 => ?_) (fun hc1 => ?_)
  · have hc1 : (σ3 103 4) ≠ 0 := hc1
    refine jw_W_n 1 (i' := 82) (ls' := [some (.inr (.inr 103)), some (.inl i), some (.inr (.inl T)), none, some (.inl k'), b1, b2, b3, b4]) (st' := [.inl 0]) rfl ?_
    refine jw_W_ir rfl ?_
    exact ⟨0, rfl, jm_cb_fe hI, .inr ⟨rfl, hn (by omega)⟩⟩
  · have hc1 : (σ3 103 4) = 0 := Classical.not_not.mp hc1
    refine jw_W_n 2 (i' := 82) (ls' := [some (.inr (.inr 103)), some (.inl i), some (.inr (.inl T)), none, some (.inl k'), b1, b2, b3, b4]) (st' := [.inl 1]) rfl ?_
    refine jw_W_ir rfl ?_
    exact ⟨1, rfl, jm_cb_fe hI, .inl ⟨rfl, .inl (by omega)⟩⟩

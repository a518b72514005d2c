/-! ===== the class: which corners are linked ===== -/
/-- two alike to a third one are alike -/
theorem jx_par {f a b : ge_D} (hf : ge_nz f) (h1 : ¬ ge_nz (jm_X f a)) (h2 : ¬ ge_nz (jm_X f b)) : ¬ ge_nz (jm_X a b) := by
  unfold ge_nz at *
  have h1 := Classical.not_not.mp h1
  have h2 := Classical.not_not.mp h2
  simp only [jm_X] at *
  obtain ⟨a1, a2, a3⟩ := a
  obtain ⟨b1, b2, b3⟩ := b
  obtain ⟨f1, f2, f3⟩ := f
  simp only at *
  intro hz
  apply hz
  have key : ∀ x : Int, f1 * x = 0 → f2 * x = 0 → f3 * x = 0 → x = 0 := fun x e1 e2 e3 => by
    by_cases c1 : f1 = 0
    · by_cases c2 : f2 = 0
      · by_cases c3 : f3 = 0
        · exact absurd ⟨c1, c2, c3⟩ hf
        · exact (Int.mul_eq_zero.mp e3).resolve_left c3
      · exact (Int.mul_eq_zero.mp e2).resolve_left c2
    · exact (Int.mul_eq_zero.mp e1).resolve_left c1
  refine ⟨key _ ?_ ?_ ?_, key _ ?_ ?_ ?_, key _ ?_ ?_ ?_⟩ <;> grind
/-- a plane's normal -/
def jx_nor (μ : jw_H) (k : Int) : ge_D := (jm_pf μ k 0, jm_pf μ k 1, jm_pf μ k 2)
theorem jx_m9 {μ : jw_H} {k l i j : Int} (hP : jm_Pb μ) (k0 : 0 ≤ k) (l0 : 0 ≤ l) (i0 : 0 ≤ i) (i1 : i < 3) (j0 : 0 ≤ j) (j1 : j < 3) : -9 ≤ jm_pf μ k i * jm_pf μ l j ∧ jm_pf μ k i * jm_pf μ l j ≤ 9 := jm_m9 (jm_pf_sm hP k0 i0 i1) (jm_pf_sm hP l0 j0 j1)
theorem jx_takesNothing {n : Nat} {σ : jw_H} {o : Nat} (hfo : (σ 57 6).toNat = o) (hp : jx_po n o) (hP : jx_Pb σ o) {k : Int} (k0 : 0 ≤ k) (k1 : k < σ o 2 + 2 * σ o 0)  : jw_T (js_S n) 2 7 [.inr (.inr 57), .inl k] σ (fun r σ' => (r = some (.inl 1) ∧ σ' = σ ∧ (¬ ge_nz (jx_nor (jx_M σ o) k))) ∨ (r = some (.inl 0) ∧ σ' = σ ∧ ¬ (¬ ge_nz (jx_nor (jx_M σ o) k)))) := by
  refine jw_T_of (D := 1) (M := mm_7) rfl (Nat.le_of_ble_eq_true rfl) (ls0 := [some (.inr (.inr 57)), some (.inl k)]) rfl ?_ (by rintro _ _ (⟨rfl, -⟩ | ⟨rfl, -⟩) <;> rfl)
  have ho := hp.1
  have hM := jx_Pb_M hP
  have hq := hP.1
  have hw := hP.2.1
  have hq2 := hP.2.2.1
  refine jw_W_n 1 (i' := 1) (ls' := [some (.inr (.inr 57)), some (.inl k)]) (st' := [.inr (.inr 57)]) rfl ?_
  refine jw_W_gf rfl rfl rfl ?_
  show jw_W (js_S n) _ md_7 2 [some (.inr (.inr 57)), some (.inl k)] [.inr (.inr ((σ 57 6).toNat))] σ _
  rw [hfo]
  refine jw_W_n 2 (i' := 4) (ls' := [some (.inr (.inr 57)), some (.inl k)]) (st' := [.inl 0, .inl k, .inr (.inr o)]) rfl ?_
  refine jw_W_call (as := [.inr (.inr o), .inl k, .inl 0]) (rest := []) rfl rfl rfl rfl (Nat.le_of_ble_eq_true rfl) (.inr (jx_rc hp.2.1)) (jx_takes hp hP k0 k1 (by omega) (by omega)) (by omega) ?_ rfl
  rintro r1 σ1 ⟨rfl, hs⟩
  rw [hs]
  have bk0 := jm_pf_sm hM k0 (j := 0) (by omega) (by omega)
  show jw_W (js_S n) _ md_7 5 [some (.inr (.inr 57)), some (.inl k)] [.inl (jm_pf (jx_M σ o) k 0)] σ _
  refine jw_W_if rfl (by unfold jw_rg; omega) (fun hc1 => ?_) (fun hc1 => ?_)
  · have hc1 : (jm_pf (jx_M σ o) k 0) ≠ 0 := hc1
    refine jw_W_n 1 (i' := 21) (ls' := [some (.inr (.inr 57)), some (.inl k)]) (st' := [.inl 0]) rfl ?_
    refine jw_W_ir rfl ?_
    exact .inr ⟨rfl, rfl, fun hh => hh (fun hz => by simp only [jx_nor] at hz; omega)⟩
  · have hc1 : (jm_pf (jx_M σ o) k 0) = 0 := Classical.not_not.mp hc1
    refine jw_W_n 1 (i' := 7) (ls' := [some (.inr (.inr 57)), some (.inl k)]) (st' := [.inr (.inr 57)]) rfl ?_
    refine jw_W_gf rfl rfl rfl ?_
    show jw_W (js_S n) _ md_7 8 [some (.inr (.inr 57)), some (.inl k)] [.inr (.inr ((σ 57 6).toNat))] σ _
    rw [hfo]
    refine jw_W_n 2 (i' := 10) (ls' := [some (.inr (.inr 57)), some (.inl k)]) (st' := [.inl 1, .inl k, .inr (.inr o)]) rfl ?_
    refine jw_W_call (as := [.inr (.inr o), .inl k, .inl 1]) (rest := []) rfl rfl rfl rfl (Nat.le_of_ble_eq_true rfl) (.inr (jx_rc hp.2.1)) (jx_takes hp hP k0 k1 (by omega) (by omega)) (by omega) ?_ rfl
    rintro r1 σ1 ⟨rfl, hs⟩
    rw [hs]
    have bk1 := jm_pf_sm hM k0 (j := 1) (by omega) (by omega)
    show jw_W (js_S n) _ md_7 11 [some (.inr (.inr 57)), some (.inl k)] [.inl (jm_pf (jx_M σ o) k 1)] σ _
    refine jw_W_if rfl (by unfold jw_rg; omega) (fun hc2 => ?_) (fun hc2 => ?_)
    · have hc2 : (jm_pf (jx_M σ o) k 1) ≠ 0 := hc2
      refine jw_W_n 1 (i' := 21) (ls' := [some (.inr (.inr 57)), some (.inl k)]) (st' := [.inl 0]) rfl ?_
      refine jw_W_ir rfl ?_
      exact .inr ⟨rfl, rfl, fun hh => hh (fun hz => by simp only [jx_nor] at hz; omega)⟩
    · have hc2 : (jm_pf (jx_M σ o) k 1) = 0 := Classical.not_not.mp hc2
      refine jw_W_n 1 (i' := 13) (ls' := [some (.inr (.inr 57)), some (.inl k)]) (st' := [.inr (.inr 57)]) rfl ?_
      refine jw_W_gf rfl rfl rfl ?_
      show jw_W (js_S n) _ md_7 14 [some (.inr (.inr 57)), some (.inl k)] [.inr (.inr ((σ 57 6).toNat))] σ _
      rw [hfo]
      refine jw_W_n 2 (i' := 16) (ls' := [some (.inr (.inr 57)), some (.inl k)]) (st' := [.inl 2, .inl k, .inr (.inr o)]) rfl ?_
      refine jw_W_call (as := [.inr (.inr o), .inl k, .inl 2]) (rest := []) rfl rfl rfl rfl (Nat.le_of_ble_eq_true rfl) (.inr (jx_rc hp.2.1)) (jx_takes hp hP k0 k1 (by omega) (by omega)) (by omega) ?_ rfl
      rintro r1 σ1 ⟨rfl, hs⟩
      rw [hs]
      have bk2 := jm_pf_sm hM k0 (j := 2) (by omega) (by omega)
      show jw_W (js_S n) _ md_7 17 [some (.inr (.inr 57)), some (.inl k)] [.inl (jm_pf (jx_M σ o) k 2)] σ _
      refine jw_W_if rfl (by unfold jw_rg; omega) (fun hc3 => ?_) (fun hc3 => ?_)
      · have hc3 : (jm_pf (jx_M σ o) k 2) ≠ 0 := hc3
        refine jw_W_n 1 (i' := 21) (ls' := [some (.inr (.inr 57)), some (.inl k)]) (st' := [.inl 0]) rfl ?_
        refine jw_W_ir rfl ?_
        exact .inr ⟨rfl, rfl, fun hh => hh (fun hz => by simp only [jx_nor] at hz; omega)⟩
      · have hc3 : (jm_pf (jx_M σ o) k 2) = 0 := Classical.not_not.mp hc3
        refine jw_W_n 2 (i' := 21) (ls' := [some (.inr (.inr 57)), some (.inl k)]) (st' := [.inl 1]) rfl ?_
        refine jw_W_ir rfl ?_
        exact .inl ⟨rfl, rfl, fun hh => hh ⟨by assumption, by assumption, by assumption⟩⟩
theorem jx_isFlat {n : Nat} {σ : jw_H} {o : Nat} (hfo : (σ 57 6).toNat = o) (hp : jx_po n o) (hP : jx_Pb σ o) {k l u v : Int} (k0 : 0 ≤ k) (k1 : k < σ o 2 + 2 * σ o 0) (l0 : 0 ≤ l) (l1 : l < σ o 2 + 2 * σ o 0) (u0 : 0 ≤ u) (u1 : u < 3) (v0 : 0 ≤ v) (v1 : v < 3) : jw_T (js_S n) 2 9 [.inr (.inr 57), .inl k, .inl l, .inl u, .inl v] σ (fun r σ' => (r = some (.inl 1) ∧ σ' = σ ∧ (jm_pf (jx_M σ o) k u * jm_pf (jx_M σ o) l v = jm_pf (jx_M σ o) k v * jm_pf (jx_M σ o) l u)) ∨ (r = some (.inl 0) ∧ σ' = σ ∧ ¬ (jm_pf (jx_M σ o) k u * jm_pf (jx_M σ o) l v = jm_pf (jx_M σ o) k v * jm_pf (jx_M σ o) l u))) := by
  refine jw_T_of (D := 1) (M := mm_9) rfl (Nat.le_of_ble_eq_true rfl) (ls0 := [some (.inr (.inr 57)), some (.inl k), some (.inl l), some (.inl u), some (.inl v)]) rfl ?_ (by rintro _ _ (⟨rfl, -⟩ | ⟨rfl, -⟩) <;> rfl)
  have ho := hp.1
  have hM := jx_Pb_M hP
  have hq := hP.1
  have hw := hP.2.1
  have hq2 := hP.2.2.1
  have m1 := jx_m9 (i := u) (j := v) hM k0 l0 u0 u1 v0 v1
  have m2 := jx_m9 (i := v) (j := u) hM k0 l0 v0 v1 u0 u1
  refine jw_W_n 1 (i' := 1) (ls' := [some (.inr (.inr 57)), some (.inl k), some (.inl l), some (.inl u), some (.inl v)]) (st' := [.inr (.inr 57)]) rfl ?_
  refine jw_W_gf rfl rfl rfl ?_
  show jw_W (js_S n) _ md_9 2 [some (.inr (.inr 57)), some (.inl k), some (.inl l), some (.inl u), some (.inl v)] [.inr (.inr ((σ 57 6).toNat))] σ _
  rw [hfo]
  refine jw_W_n 2 (i' := 4) (ls' := [some (.inr (.inr 57)), some (.inl k), some (.inl l), some (.inl u), some (.inl v)]) (st' := [.inl u, .inl k, .inr (.inr o)]) rfl ?_
  refine jw_W_call (as := [.inr (.inr o), .inl k, .inl u]) (rest := []) rfl rfl rfl rfl (Nat.le_of_ble_eq_true rfl) (.inr (jx_rc hp.2.1)) (jx_takes hp hP k0 k1 (by omega) (by omega)) (by omega) ?_ rfl
  rintro r1 σ1 ⟨rfl, hs⟩
  rw [hs]
  show jw_W (js_S n) _ md_9 5 [some (.inr (.inr 57)), some (.inl k), some (.inl l), some (.inl u), some (.inl v)] [.inl (jm_pf (jx_M σ o) k u)] σ _
  refine jw_W_n 1 (i' := 6) (ls' := [some (.inr (.inr 57)), some (.inl k), some (.inl l), some (.inl u), some (.inl v)]) (st' := [.inr (.inr 57), .inl (jm_pf (jx_M σ o) k u)]) rfl ?_
  refine jw_W_gf rfl rfl rfl ?_
  show jw_W (js_S n) _ md_9 7 [some (.inr (.inr 57)), some (.inl k), some (.inl l), some (.inl u), some (.inl v)] [.inr (.inr ((σ 57 6).toNat)), .inl (jm_pf (jx_M σ o) k u)] σ _
  rw [hfo]
  refine jw_W_n 2 (i' := 9) (ls' := [some (.inr (.inr 57)), some (.inl k), some (.inl l), some (.inl u), some (.inl v)]) (st' := [.inl v, .inl l, .inr (.inr o), .inl (jm_pf (jx_M σ o) k u)]) rfl ?_
  refine jw_W_call (as := [.inr (.inr o), .inl l, .inl v]) (rest := [.inl (jm_pf (jx_M σ o) k u)]) rfl rfl rfl rfl (Nat.le_of_ble_eq_true rfl) (.inr (jx_rc hp.2.1)) (jx_takes hp hP l0 l1 (by omega) (by omega)) (by omega) ?_ rfl
  rintro r1 σ1 ⟨rfl, hs⟩
  rw [hs]
  show jw_W (js_S n) _ md_9 10 [some (.inr (.inr 57)), some (.inl k), some (.inl l), some (.inl u), some (.inl v)] [.inl (jm_pf (jx_M σ o) l v), .inl (jm_pf (jx_M σ o) k u)] σ _
  refine jw_W_n 2 (i' := 12) (ls' := [some (.inr (.inr 57)), some (.inl k), some (.inl l), some (.inl u), some (.inl v)]) (st' := [.inr (.inr 57), .inl ((jm_pf (jx_M σ o) k u) * (jm_pf (jx_M σ o) l v))]) rfl ?_
  refine jw_W_gf rfl rfl rfl ?_
  show jw_W (js_S n) _ md_9 13 [some (.inr (.inr 57)), some (.inl k), some (.inl l), some (.inl u), some (.inl v)] [.inr (.inr ((σ 57 6).toNat)), .inl ((jm_pf (jx_M σ o) k u) * (jm_pf (jx_M σ o) l v))] σ _
  rw [hfo]
  refine jw_W_n 2 (i' := 15) (ls' := [some (.inr (.inr 57)), some (.inl k), some (.inl l), some (.inl u), some (.inl v)]) (st' := [.inl v, .inl k, .inr (.inr o), .inl ((jm_pf (jx_M σ o) k u) * (jm_pf (jx_M σ o) l v))]) rfl ?_
  refine jw_W_call (as := [.inr (.inr o), .inl k, .inl v]) (rest := [.inl ((jm_pf (jx_M σ o) k u) * (jm_pf (jx_M σ o) l v))]) rfl rfl rfl rfl (Nat.le_of_ble_eq_true rfl) (.inr (jx_rc hp.2.1)) (jx_takes hp hP k0 k1 (by omega) (by omega)) (by omega) ?_ rfl
  rintro r1 σ1 ⟨rfl, hs⟩
  rw [hs]
  show jw_W (js_S n) _ md_9 16 [some (.inr (.inr 57)), some (.inl k), some (.inl l), some (.inl u), some (.inl v)] [.inl (jm_pf (jx_M σ o) k v), .inl ((jm_pf (jx_M σ o) k u) * (jm_pf (jx_M σ o) l v))] σ _
  refine jw_W_n 1 (i' := 17) (ls' := [some (.inr (.inr 57)), some (.inl k), some (.inl l), some (.inl u), some (.inl v)]) (st' := [.inr (.inr 57), .inl (jm_pf (jx_M σ o) k v), .inl ((jm_pf (jx_M σ o) k u) * (jm_pf (jx_M σ o) l v))]) rfl ?_
  refine jw_W_gf rfl rfl rfl ?_
  show jw_W (js_S n) _ md_9 18 [some (.inr (.inr 57)), some (.inl k), some (.inl l), some (.inl u), some (.inl v)] [.inr (.inr ((σ 57 6).toNat)), .inl (jm_pf (jx_M σ o) k v), .inl ((jm_pf (jx_M σ o) k u) * (jm_pf (jx_M σ o) l v))] σ _
  rw [hfo]
  refine jw_W_n 2 (i' := 20) (ls' := [some (.inr (.inr 57)), some (.inl k), some (.inl l), some (.inl u), some (.inl v)]) (st' := [.inl u, .inl l, .inr (.inr o), .inl (jm_pf (jx_M σ o) k v), .inl ((jm_pf (jx_M σ o) k u) * (jm_pf (jx_M σ o) l v))]) rfl ?_
  refine jw_W_call (as := [.inr (.inr o), .inl l, .inl u]) (rest := [.inl (jm_pf (jx_M σ o) k v), .inl ((jm_pf (jx_M σ o) k u) * (jm_pf (jx_M σ o) l v))]) rfl rfl rfl rfl (Nat.le_of_ble_eq_true rfl) (.inr (jx_rc hp.2.1)) (jx_takes hp hP l0 l1 (by omega) (by omega)) (by omega) ?_ rfl
  rintro r1 σ1 ⟨rfl, hs⟩
  rw [hs]
  show jw_W (js_S n) _ md_9 21 [some (.inr (.inr 57)), some (.inl k), some (.inl l), some (.inl u), some (.inl v)] [.inl (jm_pf (jx_M σ o) l u), .inl (jm_pf (jx_M σ o) k v), .inl ((jm_pf (jx_M σ o) k u) * (jm_pf (jx_M σ o) l v))] σ _
  refine jw_W_n 1 (i' := 22) (ls' := [some (.inr (.inr 57)), some (.inl k), some (.inl l), some (.inl u), some (.inl v)]) (st' := [.inl ((jm_pf (jx_M σ o) k v) * (jm_pf (jx_M σ o) l u)), .inl ((jm_pf (jx_M σ o) k u) * (jm_pf (jx_M σ o) l v))]) rfl ?_
  refine jw_W_ic rfl (by unfold jw_rg; omega) (by unfold jw_rg; omega) (fun hc1 => ?_) (fun hc1 => ?_)
  · have hc1 : ((jm_pf (jx_M σ o) k u) * (jm_pf (jx_M σ o) l v)) ≠ ((jm_pf (jx_M σ o) k v) * (jm_pf (jx_M σ o) l u)) := hc1
    refine jw_W_n 1 (i' := 26) (ls' := [some (.inr (.inr 57)), some (.inl k), some (.inl l), some (.inl u), some (.inl v)]) (st' := [.inl 0]) rfl ?_
    refine jw_W_ir rfl ?_
    exact .inr ⟨rfl, rfl, by omega⟩
  · have hc1 : ((jm_pf (jx_M σ o) k u) * (jm_pf (jx_M σ o) l v)) = ((jm_pf (jx_M σ o) k v) * (jm_pf (jx_M σ o) l u)) := Classical.not_not.mp hc1
    refine jw_W_n 2 (i' := 26) (ls' := [some (.inr (.inr 57)), some (.inl k), some (.inl l), some (.inl u), some (.inl v)]) (st' := [.inl 1]) rfl ?_
    refine jw_W_ir rfl ?_
    exact .inl ⟨rfl, rfl, by omega⟩
theorem jx_areParallel {n : Nat} {σ : jw_H} {o : Nat} (hfo : (σ 57 6).toNat = o) (hp : jx_po n o) (hP : jx_Pb σ o) {k l : Int} (k0 : 0 ≤ k) (k1 : k < σ o 2 + 2 * σ o 0) (l0 : 0 ≤ l) (l1 : l < σ o 2 + 2 * σ o 0)  : jw_T (js_S n) 3 8 [.inr (.inr 57), .inl k, .inl l] σ (fun r σ' => (r = some (.inl 1) ∧ σ' = σ ∧ (¬ ge_nz (jm_X (jx_nor (jx_M σ o) k) (jx_nor (jx_M σ o) l)))) ∨ (r = some (.inl 0) ∧ σ' = σ ∧ ¬ (¬ ge_nz (jm_X (jx_nor (jx_M σ o) k) (jx_nor (jx_M σ o) l))))) := by
  refine jw_T_of (D := 2) (M := mm_8) rfl (Nat.le_of_ble_eq_true rfl) (ls0 := [some (.inr (.inr 57)), some (.inl k), some (.inl l)]) rfl ?_ (by rintro _ _ (⟨rfl, -⟩ | ⟨rfl, -⟩) <;> rfl)
  have ho := hp.1
  have hM := jx_Pb_M hP
  have hq := hP.1
  have hw := hP.2.1
  have hq2 := hP.2.2.1
  refine jw_W_n 5 (i' := 5) (ls' := [some (.inr (.inr 57)), some (.inl k), some (.inl l)]) (st' := [.inl 1, .inl 0, .inl l, .inl k, .inr (.inr 57)]) rfl ?_
  refine jw_W_call (as := [.inr (.inr 57), .inl k, .inl l, .inl 0, .inl 1]) (rest := []) rfl rfl rfl rfl (Nat.le_of_ble_eq_true rfl) (.inr rfl) (jx_isFlat hfo hp hP k0 k1 l0 l1 (by omega) (by omega) (by omega) (by omega)) (by omega) ?_ rfl
  rintro r1 σ1 (⟨rfl, hs, f0⟩ | ⟨rfl, hs, f0⟩)
  · rw [hs]
    show jw_W (js_S n) _ md_8 6 [some (.inr (.inr 57)), some (.inl k), some (.inl l)] [.inl 1] σ _
    refine jw_W_if rfl (by unfold jw_rg; omega) (fun hc1 => ?_) (fun hc1 => ?_)
    · exact absurd hc1 (show ¬ ((1 : Int) = 0) by omega)
    · clear hc1
      refine jw_W_n 5 (i' := 12) (ls' := [some (.inr (.inr 57)), some (.inl k), some (.inl l)]) (st' := [.inl 2, .inl 1, .inl l, .inl k, .inr (.inr 57)]) rfl ?_
      refine jw_W_call (as := [.inr (.inr 57), .inl k, .inl l, .inl 1, .inl 2]) (rest := []) rfl rfl rfl rfl (Nat.le_of_ble_eq_true rfl) (.inr rfl) (jx_isFlat hfo hp hP k0 k1 l0 l1 (by omega) (by omega) (by omega) (by omega)) (by omega) ?_ rfl
      rintro r1 σ1 (⟨rfl, hs, f1⟩ | ⟨rfl, hs, f1⟩)
      · rw [hs]
        show jw_W (js_S n) _ md_8 13 [some (.inr (.inr 57)), some (.inl k), some (.inl l)] [.inl 1] σ _
        refine jw_W_if rfl (by unfold jw_rg; omega) (fun hc2 => ?_) (fun hc2 => ?_)
        · exact absurd hc2 (show ¬ ((1 : Int) = 0) by omega)
        · clear hc2
          refine jw_W_n 5 (i' := 19) (ls' := [some (.inr (.inr 57)), some (.inl k), some (.inl l)]) (st' := [.inl 0, .inl 2, .inl l, .inl k, .inr (.inr 57)]) rfl ?_
          refine jw_W_call (as := [.inr (.inr 57), .inl k, .inl l, .inl 2, .inl 0]) (rest := []) rfl rfl rfl rfl (Nat.le_of_ble_eq_true rfl) (.inr rfl) (jx_isFlat hfo hp hP k0 k1 l0 l1 (by omega) (by omega) (by omega) (by omega)) (by omega) ?_ rfl
          rintro r1 σ1 (⟨rfl, hs, f2⟩ | ⟨rfl, hs, f2⟩)
          · rw [hs]
            show jw_W (js_S n) _ md_8 20 [some (.inr (.inr 57)), some (.inl k), some (.inl l)] [.inl 1] σ _
            refine jw_W_if rfl (by unfold jw_rg; omega) (fun hc3 => ?_) (fun hc3 => ?_)
            · exact absurd hc3 (show ¬ ((1 : Int) = 0) by omega)
            · clear hc3
              refine jw_W_n 2 (i' := 24) (ls' := [some (.inr (.inr 57)), some (.inl k), some (.inl l)]) (st' := [.inl 1]) rfl ?_
              refine jw_W_ir rfl ?_
              exact .inl ⟨rfl, rfl, fun hh => hh (by simp only [jx_nor, jm_X]; omega)⟩
          · rw [hs]
            show jw_W (js_S n) _ md_8 20 [some (.inr (.inr 57)), some (.inl k), some (.inl l)] [.inl 0] σ _
            refine jw_W_if rfl (by unfold jw_rg; omega) (fun hc4 => ?_) (fun hc4 => ?_)
            · clear hc4
              refine jw_W_n 1 (i' := 24) (ls' := [some (.inr (.inr 57)), some (.inl k), some (.inl l)]) (st' := [.inl 0]) rfl ?_
              refine jw_W_ir rfl ?_
              exact .inr ⟨rfl, rfl, fun hh => hh (fun hz => by simp only [jx_nor, jm_X] at hz; omega)⟩
            · exact absurd hc4 (show ¬ ¬ ((0 : Int) = 0) by omega)
      · rw [hs]
        show jw_W (js_S n) _ md_8 13 [some (.inr (.inr 57)), some (.inl k), some (.inl l)] [.inl 0] σ _
        refine jw_W_if rfl (by unfold jw_rg; omega) (fun hc5 => ?_) (fun hc5 => ?_)
        · clear hc5
          refine jw_W_n 1 (i' := 24) (ls' := [some (.inr (.inr 57)), some (.inl k), some (.inl l)]) (st' := [.inl 0]) rfl ?_
          refine jw_W_ir rfl ?_
          exact .inr ⟨rfl, rfl, fun hh => hh (fun hz => by simp only [jx_nor, jm_X] at hz; omega)⟩
        · exact absurd hc5 (show ¬ ¬ ((0 : Int) = 0) by omega)
  · rw [hs]
    show jw_W (js_S n) _ md_8 6 [some (.inr (.inr 57)), some (.inl k), some (.inl l)] [.inl 0] σ _
    refine jw_W_if rfl (by unfold jw_rg; omega) (fun hc6 => ?_) (fun hc6 => ?_)
    · clear hc6
      refine jw_W_n 1 (i' := 24) (ls' := [some (.inr (.inr 57)), some (.inl k), some (.inl l)]) (st' := [.inl 0]) rfl ?_
      refine jw_W_ir rfl ?_
      exact .inr ⟨rfl, rfl, fun hh => hh (fun hz => by simp only [jx_nor, jm_X] at hz; omega)⟩
    · exact absurd hc6 (show ¬ ¬ ((0 : Int) = 0) by omega)
/-- a plane told by a bit, by which something is taken -/
def jx_A (μ : jw_H) (t k : Int) : Prop := jb_in t k.toNat ∧ ge_nz (jx_nor μ k)
/-- so far: the first one, all others alike -/
def jx_rf (μ : jw_H) (t f k : Int) : Prop := (f = -1 ∧ ∀ j, 0 ≤ j → j < k → ¬ jx_A μ t j) ∨ ((0 ≤ f ∧ f < k) ∧ jx_A μ t f ∧ ∀ j, 0 ≤ j → j < k → jx_A μ t j → ¬ ge_nz (jm_X (jx_nor μ f) (jx_nor μ j)))
theorem jx_rf_no {μ : jw_H} {t f k : Int} (h : jx_rf μ t f k) (hA : ¬ jx_A μ t k) : jx_rf μ t f (k + 1) := by
  rcases h with ⟨e, h⟩ | ⟨b, c, h⟩
  · refine .inl ⟨e, fun j j0 j1 => ?_⟩
    by_cases hj : j = k
    · rw [hj]
      exact hA
    · exact h j j0 (by omega)
  · refine .inr ⟨by omega, c, fun j j0 j1 hj2 => ?_⟩
    by_cases hj : j = k
    · rw [hj] at hj2
      exact absurd hj2 hA
    · exact h j j0 (by omega) hj2
theorem jx_rf_first {μ : jw_H} {t f k : Int} (h : jx_rf μ t f k) (k0 : 0 ≤ k) (hf : f < 0) (hA : jx_A μ t k) : jx_rf μ t k (k + 1) := by
  rcases h with ⟨e, h⟩ | ⟨b, c, h⟩
  · refine .inr ⟨by omega, hA, fun j j0 j1 hj2 => ?_⟩
    by_cases hj : j = k
    · rw [hj]
      intro hz
      apply hz
      simp only [jm_X]
      refine ⟨?_, ?_, ?_⟩ <;> grind
    · exact absurd hj2 (h j j0 (by omega))
  · omega
theorem jx_rf_like {μ : jw_H} {t f k : Int} (h : jx_rf μ t f k) (hf : 0 ≤ f) (hp : ¬ ge_nz (jm_X (jx_nor μ f) (jx_nor μ k))) : jx_rf μ t f (k + 1) := by
  rcases h with ⟨e, h⟩ | ⟨b, c, h⟩
  · omega
  · refine .inr ⟨by omega, c, fun j j0 j1 hj2 => ?_⟩
    by_cases hj : j = k
    · rw [hj]
      exact hp
    · exact h j j0 (by omega) hj2
/-- how many unlike ways there are across planes, told by bits -/
def jx_rk (μ : jw_H) (t r : Int) : Prop := (r = 0 ∧ ∀ j, 0 ≤ j → j < μ 103 5 + 2 * μ 103 3 → ¬ jx_A μ t j) ∨ (r = 1 ∧ (∃ f, (0 ≤ f ∧ f < μ 103 5 + 2 * μ 103 3) ∧ jx_A μ t f ∧ ∀ j, 0 ≤ j → j < μ 103 5 + 2 * μ 103 3 → jx_A μ t j → ¬ ge_nz (jm_X (jx_nor μ f) (jx_nor μ j)))) ∨ (r = 2 ∧ ∃ f k, (0 ≤ f ∧ f < μ 103 5 + 2 * μ 103 3) ∧ (0 ≤ k ∧ k < μ 103 5 + 2 * μ 103 3) ∧ jx_A μ t f ∧ jx_A μ t k ∧ ge_nz (jm_X (jx_nor μ f) (jx_nor μ k)))
theorem jx_rank_loop {n : Nat} {σ : jw_H} {o : Nat} {t : Int} (hfo : (σ 57 6).toNat = o) (hp : jx_po n o) (hP : jx_Pb σ o) (ht : 0 ≤ t ∧ t ≤ 1048575) : ∀ (m : Nat) {k f : Int}, 0 ≤ k → k + m = σ o 2 + 2 * σ o 0 → (f = -1 ∨ 0 ≤ f ∧ f < k) → jx_rf (jx_M σ o) t f k → jw_W (js_S n) 3 md_6 4 [some (.inr (.inr 57)), some (.inl t), some (.inl f), some (.inl k)] [] σ (fun r σ' => ∃ r', r = some (.inl r') ∧ σ' = σ ∧ jx_rk (jx_M σ o) t r')
  | m, k, f, k0, hk, hf, H => by
    have ih : ∀ {f' : Int}, k < σ o 2 + 2 * σ o 0 → (f' = -1 ∨ 0 ≤ f' ∧ f' < k + 1) → jx_rf (jx_M σ o) t f' (k + 1) → jw_W (js_S n) 3 md_6 4 [some (.inr (.inr 57)), some (.inl t), some (.inl f'), some (.inl (k + 1))] [] σ (fun r σ' => ∃ r', r = some (.inl r') ∧ σ' = σ ∧ jx_rk (jx_M σ o) t r') := by
      intro f' h1 h2 h3
      match m, hk with
      | 0, hk => omega
      | m + 1, hk => exact jx_rank_loop hfo hp hP ht m (by omega) (by omega) h2 h3
    have ho := hp.1
    have hq := hP.1
    have hq2 := hP.2.2.1
    refine jw_W_n 2 (i' := 6) (ls' := [some (.inr (.inr 57)), some (.inl t), some (.inl f), some (.inl k)]) (st' := [.inr (.inr 57), .inl k]) rfl ?_
    refine jw_W_gf rfl rfl rfl ?_
    show jw_W (js_S n) _ md_6 7 [some (.inr (.inr 57)), some (.inl t), some (.inl f), some (.inl k)] [.inr (.inr ((σ 57 6).toNat)), .inl k] σ _
    rw [hfo]
    refine jw_W_call (as := [.inr (.inr o)]) (rest := [.inl k]) rfl rfl rfl rfl (Nat.le_of_ble_eq_true rfl) (.inr (jx_rc hp.2.1)) (jx_planes hp) (by omega) ?_ rfl
    rintro r1 σ1 ⟨rfl, hs⟩
    rw [hs]
    show jw_W (js_S n) _ md_6 8 [some (.inr (.inr 57)), some (.inl t), some (.inl f), some (.inl k)] [.inl (σ o 2 + 2 * σ o 0), .inl k] σ _
    refine jw_W_ic rfl (by unfold jw_rg; omega) (by unfold jw_rg; omega) (fun hc1 => ?_) (fun hc1 => ?_)
    · have hc1 : k ≥ (σ o 2 + 2 * σ o 0) := hc1
      refine jw_W_n 1 (i' := 34) (ls' := [some (.inr (.inr 57)), some (.inl t), some (.inl f), some (.inl k)]) (st' := [.inl f]) rfl ?_
      refine jw_W_if rfl (by unfold jw_rg; omega) (fun hc2 => ?_) (fun hc2 => ?_)
      · have hc2 : f ≥ 0 := hc2
        refine jw_W_n 1 (i' := 38) (ls' := [some (.inr (.inr 57)), some (.inl t), some (.inl f), some (.inl k)]) (st' := [.inl 1]) rfl ?_
        refine jw_W_ir rfl ?_
        have hkl : k = σ o 2 + 2 * σ o 0 := by omega
        subst hkl
        exact ⟨1, rfl, rfl, .inr (.inl ⟨rfl, f, H.resolve_left (by omega)⟩)⟩
      · have hc2 : ¬ (f ≥ 0) := hc2
        refine jw_W_n 2 (i' := 38) (ls' := [some (.inr (.inr 57)), some (.inl t), some (.inl f), some (.inl k)]) (st' := [.inl 0]) rfl ?_
        refine jw_W_ir rfl ?_
        have hkl : k = σ o 2 + 2 * σ o 0 := by omega
        subst hkl
        exact ⟨0, rfl, rfl, .inl ⟨rfl, (H.resolve_right (by omega)).2⟩⟩
    · have hc1 : ¬ (k ≥ (σ o 2 + 2 * σ o 0)) := hc1
      refine jw_W_n 5 (i' := 14) (ls' := [some (.inr (.inr 57)), some (.inl t), some (.inl f), some (.inl k)]) (st' := [.inl (jw_and t (jw_shl 1 k))]) rfl ?_
      have hbt := jx_bitz ht k0 (by omega)
      refine jw_W_if rfl (by unfold jw_rg; omega) (fun hc3 => ?_) (fun hc3 => ?_)
      · have hc3 : (jw_and t (jw_shl 1 k)) = 0 := hc3
        refine jw_W_n 2 (i' := 4) (ls' := [some (.inr (.inr 57)), some (.inl t), some (.inl f), some (.inl (k + 1))]) (st' := []) rfl ?_
        first | exact ih (by omega) (by omega) (jx_rf_no H (fun hh => hn hh.2)) | exact ih (by omega) (by omega) (jx_rf_no H (fun hh => hbt.2.mp (by assumption) hh.1)) | exact ih (by omega) (by omega) (jx_rf_like H (by omega) hpp)
      · have hc3 : ¬ ((jw_and t (jw_shl 1 k)) = 0) := hc3
        have hin : jb_in t k.toNat := Classical.not_not.mp (fun hh => (show ¬ _ from by assumption) (hbt.2.mpr hh))
        refine jw_W_n 2 (i' := 17) (ls' := [some (.inr (.inr 57)), some (.inl t), some (.inl f), some (.inl k)]) (st' := [.inl k, .inr (.inr 57)]) rfl ?_
        refine jw_W_call (as := [.inr (.inr 57), .inl k]) (rest := []) rfl rfl rfl rfl (Nat.le_of_ble_eq_true rfl) (.inr rfl) (jx_takesNothing hfo hp hP k0 (by omega)) (by omega) ?_ rfl
        rintro r1 σ1 (⟨rfl, hs, hn⟩ | ⟨rfl, hs, hn⟩)
        · rw [hs]
          show jw_W (js_S n) _ md_6 18 [some (.inr (.inr 57)), some (.inl t), some (.inl f), some (.inl k)] [.inl 1] σ _
          refine jw_W_if rfl (by unfold jw_rg; omega) (fun hc4 => ?_) (fun hc4 => ?_)
          · clear hc4
            refine jw_W_n 2 (i' := 4) (ls' := [some (.inr (.inr 57)), some (.inl t), some (.inl f), some (.inl (k + 1))]) (st' := []) rfl ?_
            first | exact ih (by omega) (by omega) (jx_rf_no H (fun hh => hn hh.2)) | exact ih (by omega) (by omega) (jx_rf_no H (fun hh => hbt.2.mp (by assumption) hh.1)) | exact ih (by omega) (by omega) (jx_rf_like H (by omega) hpp)
          · exact absurd hc4 (show ¬ ¬ ((1 : Int) ≠ 0) by omega)
        · rw [hs]
          have hA : jx_A (jx_M σ o) t k := ⟨hin, Classical.not_not.mp hn⟩
          show jw_W (js_S n) _ md_6 18 [some (.inr (.inr 57)), some (.inl t), some (.inl f), some (.inl k)] [.inl 0] σ _
          refine jw_W_if rfl (by unfold jw_rg; omega) (fun hc5 => ?_) (fun hc5 => ?_)
          · exact absurd hc5 (show ¬ ((0 : Int) ≠ 0) by omega)
          · clear hc5
            refine jw_W_n 1 (i' := 20) (ls' := [some (.inr (.inr 57)), some (.inl t), some (.inl f), some (.inl k)]) (st' := [.inl f]) rfl ?_
            refine jw_W_if rfl (by unfold jw_rg; omega) (fun hc6 => ?_) (fun hc6 => ?_)
            · have hc6 : f ≥ 0 := hc6
              refine jw_W_n 3 (i' := 27) (ls' := [some (.inr (.inr 57)), some (.inl t), some (.inl f), some (.inl k)]) (st' := [.inl k, .inl f, .inr (.inr 57)]) rfl ?_
              refine jw_W_call (as := [.inr (.inr 57), .inl f, .inl k]) (rest := []) rfl rfl rfl rfl (Nat.le_of_ble_eq_true rfl) (.inr rfl) (jx_areParallel hfo hp hP (by omega) (by omega) k0 (by omega)) (by omega) ?_ rfl
              rintro r1 σ1 (⟨rfl, hs, hpp⟩ | ⟨rfl, hs, hpp⟩)
              · rw [hs]
                show jw_W (js_S n) _ md_6 28 [some (.inr (.inr 57)), some (.inl t), some (.inl f), some (.inl k)] [.inl 1] σ _
                refine jw_W_if rfl (by unfold jw_rg; omega) (fun hc7 => ?_) (fun hc7 => ?_)
                · clear hc7
                  refine jw_W_n 2 (i' := 4) (ls' := [some (.inr (.inr 57)), some (.inl t), some (.inl f), some (.inl (k + 1))]) (st' := []) rfl ?_
                  first | exact ih (by omega) (by omega) (jx_rf_no H (fun hh => hn hh.2)) | exact ih (by omega) (by omega) (jx_rf_no H (fun hh => hbt.2.mp (by assumption) hh.1)) | exact ih (by omega) (by omega) (jx_rf_like H (by omega) hpp)
                · exact absurd hc7 (show ¬ ¬ ((1 : Int) ≠ 0) by omega)
              · rw [hs]
                show jw_W (js_S n) _ md_6 28 [some (.inr (.inr 57)), some (.inl t), some (.inl f), some (.inl k)] [.inl 0] σ _
                refine jw_W_if rfl (by unfold jw_rg; omega) (fun hc8 => ?_) (fun hc8 => ?_)
                · exact absurd hc8 (show ¬ ((0 : Int) ≠ 0) by omega)
                · clear hc8
                  refine jw_W_n 1 (i' := 30) (ls' := [some (.inr (.inr 57)), some (.inl t), some (.inl f), some (.inl k)]) (st' := [.inl 2]) rfl ?_
                  refine jw_W_ir rfl ?_
                  exact ⟨2, rfl, rfl, .inr (.inr ⟨rfl, f, k, (show 0 ≤ f ∧ f < σ o 2 + 2 * σ o 0 by omega), (show 0 ≤ k ∧ k < σ o 2 + 2 * σ o 0 by omega), (H.resolve_left (by omega)).2.1, hA, Classical.not_not.mp hpp⟩)⟩
            · have hc6 : ¬ (f ≥ 0) := hc6
              refine jw_W_n 5 (i' := 4) (ls' := [some (.inr (.inr 57)), some (.inl t), some (.inl k), some (.inl (k + 1))]) (st' := []) rfl ?_
              exact ih (by omega) (by omega) (jx_rf_first H k0 (by omega) hA)
theorem jx_rank {n : Nat} {σ : jw_H} {o : Nat} (hfo : (σ 57 6).toNat = o) (hp : jx_po n o) (hP : jx_Pb σ o) {t : Int} (ht : 0 ≤ t ∧ t ≤ 1048575) : jw_T (js_S n) 4 6 [.inr (.inr 57), .inl t] σ (fun r σ' => ∃ r', r = some (.inl r') ∧ σ' = σ ∧ jx_rk (jx_M σ o) t r') := by
  refine jw_T_of (D := 3) (M := mm_6) rfl (Nat.le_of_ble_eq_true rfl) (ls0 := [some (.inr (.inr 57)), some (.inl t), none, none]) rfl ?_ (by rintro _ _ ⟨_, rfl, -⟩; rfl)
  have ho := hp.1
  have hM := jx_Pb_M hP
  have hq := hP.1
  have hw := hP.2.1
  have hq2 := hP.2.2.1
  refine jw_W_n 4 (i' := 4) (ls' := [some (.inr (.inr 57)), some (.inl t), some (.inl ((-1))), some (.inl 0)]) (st' := []) rfl ?_
  exact jx_rank_loop hfo hp hP ht (σ o 2 + 2 * σ o 0).toNat (k := 0) (f := -1) (by omega) (by omega) (.inl rfl) (.inl ⟨rfl, fun j j0 j1 => by omega⟩)
/-- a store with the planes' normals laid -/
def jx_Nn (μ : jw_H) : jw_H := fun c j => if c = 131 then jm_pf μ (j / 3) (j % 3) else μ c j
theorem jx_Nn_N (μ : jw_H) (k : Int) : jm_N (jx_Nn μ) k = jx_nor μ k := by
  show (jm_pf μ (3 * k / 3) (3 * k % 3), jm_pf μ ((3 * k + 1) / 3) ((3 * k + 1) % 3), jm_pf μ ((3 * k + 2) / 3) ((3 * k + 2) % 3)) = _
  rw [show 3 * k / 3 = k by omega, show 3 * k % 3 = 0 by omega, show (3 * k + 1) / 3 = k by omega, show (3 * k + 1) % 3 = 1 by omega, show (3 * k + 2) / 3 = k by omega, show (3 * k + 2) % 3 = 2 by omega]
  rfl
theorem jx_row_nor (μ : jw_H) (k : Int) : jx_nor μ k = jm_nor (jx_row μ k) ∨ jx_nor μ k = ge_ng (jm_nor (jx_row μ k)) := by
  rcases jx_sn_1 μ k with e | e
  · left
    unfold jx_nor jm_nor jx_row
    simp only [e, Int.one_mul]
  · right
    unfold jx_nor jm_nor jx_row ge_ng
    simp only [e, Int.neg_mul, Int.one_mul, Int.neg_neg]
theorem jx_rk_ed {μ : jw_H} {x y : ge_R} {s t r : Int} (hP : jm_Pb μ) (hx : ge_F (jm_R μ) x) (hy : ge_F (jm_R μ) y) (hs : jm_tau (jm_bA μ) x s) (ht : jm_tau (jm_bA μ) y t) (h : jx_rk μ (jw_and s t) r) : μ 103 3 - 1 ≤ r ↔ ge_ed (jm_R μ) x y := by
  have hq := hP.1
  have hk := hP.2.2.1
  have hn : jm_nrm (jx_Nn μ) (jm_bA μ) := by
    intro b r' hb
    obtain ⟨h1, rfl⟩ := (jx_bA_row hP).mp hb
    refine ⟨by omega, ?_⟩
    rw [jx_Nn_N]
    exact jx_row_nor μ _
  have hf : jm_flat (μ 103 3) (jm_bA μ) := fun b r' hb => jx_bk_flat hP (by omega) hb
  have hkey : jm_key (jm_bA μ) := by
    intro b r' t' h1 h2
    rw [((jx_bA_row hP).mp h1).2, ((jx_bA_row hP).mp h2).2]
  have key := jm_LL_ed (σ := jx_Nn μ) (show 1 ≤ μ 103 3 by omega) (show μ 103 3 ≤ 3 by omega) hn hf hkey hs ht hx hy
  have key : jm_LL (jx_Nn μ) (jw_and s t) ↔ ge_ed (jm_R μ) x y := key
  rw [← key]
  have bit : ∀ k : Int, 0 ≤ k → k < 20 → (jm_A (jx_Nn μ) (jw_and s t) k ↔ jx_A μ (jw_and s t) k) := fun k _ _ => by
    unfold jm_A jx_A
    rw [jx_Nn_N]
  have big : ∀ k : Int, 0 ≤ k → k < 20 → jx_A μ (jw_and s t) k → k < μ 103 5 + 2 * μ 103 3 := fun k k0 k1 hA => by
    have h1 := (jm_and_in ⟨hs.1, hs.2.1⟩ ⟨ht.1, ht.2.1⟩ k.toNat).mp hA.1
    obtain ⟨r', h2, -⟩ := (hs.2.2 k.toNat (by omega)).mp h1.1
    have := ((jx_bA_row hP).mp h2).1
    omega
  have e3 : (jx_Nn μ) 103 3 = μ 103 3 := rfl
  unfold jm_LL
  rw [e3]
  constructor
  · intro h1
    rcases (show μ 103 3 = 1 ∨ μ 103 3 = 2 ∨ μ 103 3 = 3 by omega) with e | e | e
    · exact .inl e
    · refine .inr (.inl ⟨e, ?_⟩)
      rcases h with ⟨h, -⟩ | ⟨-, f, h2, h3, -⟩ | ⟨-, f, k, h2, -, h3, -, -⟩
      · omega
      · exact ⟨f, h2.1, by omega, (bit f h2.1 (by omega)).mpr h3⟩
      · exact ⟨f, h2.1, by omega, (bit f h2.1 (by omega)).mpr h3⟩
    · refine .inr (.inr ⟨e, ?_⟩)
      rcases h with ⟨h, -⟩ | ⟨h, -⟩ | ⟨-, f, k, h2, h3, h4, h5, h6⟩
      · omega
      · omega
      · exact ⟨f, k, h2.1, by omega, h3.1, by omega, (bit f h2.1 (by omega)).mpr h4, (bit k h3.1 (by omega)).mpr h5, by rw [jx_Nn_N, jx_Nn_N]; exact h6⟩
  · intro h1
    rcases h1 with e | ⟨e, k, k0, k1, hA⟩ | ⟨e, k, l, k0, k1, l0, l1, hA, hB, hX⟩
    · rcases h with ⟨h, -⟩ | ⟨h, -⟩ | ⟨h, -⟩ <;> omega
    · have hA := (bit k k0 k1).mp hA
      rcases h with ⟨-, h⟩ | ⟨h, -⟩ | ⟨h, -⟩
      · exact absurd hA (h k k0 (big k k0 k1 hA))
      · omega
      · omega
    · have hA := (bit k k0 k1).mp hA
      have hB := (bit l l0 l1).mp hB
      rw [jx_Nn_N, jx_Nn_N] at hX
      rcases h with ⟨-, h⟩ | ⟨-, f, h2, h3, h4⟩ | ⟨h, -⟩
      · exact absurd hA (h k k0 (big k k0 k1 hA))
      · have z1 := h4 k k0 (big k k0 k1 hA) hA
        have z2 := h4 l l0 (big l l0 l1 hB) hB
        exact absurd hX (jx_par h3.2 z1 z2)
      · omega
theorem jx_areLinked {n : Nat} {σ : jw_H} {o : Nat} (hfo : (σ 57 6).toNat = o) (hp : jx_po n o) (hP : jx_Pb σ o) {i j : Int} {x y : ge_R} (i0 : 0 ≤ i) (i1 : i < 24) (j0 : 0 ≤ j) (j1 : j < 24) (hFi : ge_F (jm_R (jx_M σ o)) x) (hFj : ge_F (jm_R (jx_M σ o)) y) (htj : jm_tau (jm_bA (jx_M σ o)) x (σ 63 i)) (htk : jm_tau (jm_bA (jx_M σ o)) y (σ 63 j)) : jw_T (js_S n) 5 5 [.inr (.inr 57), .inl i, .inl j] σ (fun r σ' => (r = some (.inl 1) ∧ σ' = σ ∧ (i ≠ j ∧ ge_ed (jm_R (jx_M σ o)) x y)) ∨ (r = some (.inl 0) ∧ σ' = σ ∧ ¬ (i ≠ j ∧ ge_ed (jm_R (jx_M σ o)) x y))) := by
  refine jw_T_of (D := 4) (M := mm_5) rfl (Nat.le_of_ble_eq_true rfl) (ls0 := [some (.inr (.inr 57)), some (.inl i), some (.inl j)]) rfl ?_ (by rintro _ _ (⟨rfl, -⟩ | ⟨rfl, -⟩) <;> rfl)
  have ho := hp.1
  have hM := jx_Pb_M hP
  have hq := hP.1
  have hw := hP.2.1
  have hq2 := hP.2.2.1
  have hts : 0 ≤ jw_and (σ 63 i) (σ 63 j) ∧ jw_and (σ 63 i) (σ 63 j) ≤ 1048575 := by
    rw [jb_and htj.1 (by have := htj.2.1; omega) htk.1 (by have := htk.2.1; omega)]
    have hle : (σ 63 i).toNat &&& (σ 63 j).toNat ≤ (σ 63 i).toNat := Nat.and_le_left
    have := htj.1
    have := htj.2.1
    omega
  refine jw_W_n 2 (i' := 2) (ls' := [some (.inr (.inr 57)), some (.inl i), some (.inl j)]) (st' := [.inl j, .inl i]) rfl ?_
  refine jw_W_ic rfl (by unfold jw_rg; omega) (by unfold jw_rg; omega) (fun hc1 => ?_) (fun hc1 => ?_)
  · have hc1 : i = j := hc1
    refine jw_W_n 1 (i' := 23) (ls' := [some (.inr (.inr 57)), some (.inl i), some (.inl j)]) (st' := [.inl 0]) rfl ?_
    refine jw_W_ir rfl ?_
    exact .inr ⟨rfl, rfl, fun hh => by first | omega | exact absurd (hed.mpr hh.2) (by omega)⟩
  · have hc1 : ¬ (i = j) := hc1
    refine jw_W_n 2 (i' := 5) (ls' := [some (.inr (.inr 57)), some (.inl i), some (.inl j)]) (st' := [.inr (.inr 57), .inr (.inr 57)]) rfl ?_
    refine jw_W_gf rfl rfl rfl ?_
    show jw_W (js_S n) _ md_5 6 [some (.inr (.inr 57)), some (.inl i), some (.inl j)] [.inr (.inr 63), .inr (.inr 57)] σ _
    refine jw_W_n 1 (i' := 7) (ls' := [some (.inr (.inr 57)), some (.inl i), some (.inl j)]) (st' := [.inl i, .inr (.inr 63), .inr (.inr 57)]) rfl ?_
    refine jw_W_ia rfl rfl (by omega) (by omega) (by omega) ?_
    show jw_W (js_S n) _ md_5 8 [some (.inr (.inr 57)), some (.inl i), some (.inl j)] [.inl (σ 63 i), .inr (.inr 57)] σ _
    refine jw_W_n 1 (i' := 9) (ls' := [some (.inr (.inr 57)), some (.inl i), some (.inl j)]) (st' := [.inr (.inr 57), .inl (σ 63 i), .inr (.inr 57)]) rfl ?_
    refine jw_W_gf rfl rfl rfl ?_
    show jw_W (js_S n) _ md_5 10 [some (.inr (.inr 57)), some (.inl i), some (.inl j)] [.inr (.inr 63), .inl (σ 63 i), .inr (.inr 57)] σ _
    refine jw_W_n 1 (i' := 11) (ls' := [some (.inr (.inr 57)), some (.inl i), some (.inl j)]) (st' := [.inl j, .inr (.inr 63), .inl (σ 63 i), .inr (.inr 57)]) rfl ?_
    refine jw_W_ia rfl rfl (by omega) (by omega) (by omega) ?_
    show jw_W (js_S n) _ md_5 12 [some (.inr (.inr 57)), some (.inl i), some (.inl j)] [.inl (σ 63 j), .inl (σ 63 i), .inr (.inr 57)] σ _
    refine jw_W_n 1 (i' := 13) (ls' := [some (.inr (.inr 57)), some (.inl i), some (.inl j)]) (st' := [.inl (jw_and (σ 63 i) (σ 63 j)), .inr (.inr 57)]) rfl ?_
    refine jw_W_call (as := [.inr (.inr 57), .inl (jw_and (σ 63 i) (σ 63 j))]) (rest := []) rfl rfl rfl rfl (Nat.le_of_ble_eq_true rfl) (.inr rfl) (jx_rank hfo hp hP hts) (by omega) ?_ rfl
    rintro r1 σ1 ⟨r5, rfl, hs, hrk⟩
    rw [hs]
    have hr5 : 0 ≤ r5 ∧ r5 ≤ 2 := by rcases hrk with ⟨h, -⟩ | ⟨h, -⟩ | ⟨h, -⟩ <;> omega
    have hed := jx_rk_ed hM hFi hFj htj htk hrk
    rw [jx_M3] at hed
    show jw_W (js_S n) _ md_5 14 [some (.inr (.inr 57)), some (.inl i), some (.inl j)] [.inl r5] σ _
    refine jw_W_n 1 (i' := 15) (ls' := [some (.inr (.inr 57)), some (.inl i), some (.inl j)]) (st' := [.inr (.inr 57), .inl r5]) rfl ?_
    refine jw_W_gf rfl rfl rfl ?_
    show jw_W (js_S n) _ md_5 16 [some (.inr (.inr 57)), some (.inl i), some (.inl j)] [.inr (.inr ((σ 57 6).toNat)), .inl r5] σ _
    rw [hfo]
    refine jw_W_gf rfl hp.2.1 rfl ?_
    show jw_W (js_S n) _ md_5 17 [some (.inr (.inr 57)), some (.inl i), some (.inl j)] [.inl (σ o 0), .inl r5] σ _
    refine jw_W_n 2 (i' := 19) (ls' := [some (.inr (.inr 57)), some (.inl i), some (.inl j)]) (st' := [.inl (σ o 0 - 1), .inl r5]) rfl ?_
    refine jw_W_ic rfl (by unfold jw_rg; omega) (by unfold jw_rg; omega) (fun hc2 => ?_) (fun hc2 => ?_)
    · have hc2 : r5 < (σ o 0 - 1) := hc2
      refine jw_W_n 1 (i' := 23) (ls' := [some (.inr (.inr 57)), some (.inl i), some (.inl j)]) (st' := [.inl 0]) rfl ?_
      refine jw_W_ir rfl ?_
      exact .inr ⟨rfl, rfl, fun hh => by first | omega | exact absurd (hed.mpr hh.2) (by omega)⟩
    · have hc2 : ¬ (r5 < (σ o 0 - 1)) := hc2
      refine jw_W_n 2 (i' := 23) (ls' := [some (.inr (.inr 57)), some (.inl i), some (.inl j)]) (st' := [.inl 1]) rfl ?_
      refine jw_W_ir rfl ?_
      exact .inl ⟨rfl, rfl, by omega, hed.mp (by omega)⟩
theorem jx_isEfficientAt {n : Nat} {σ : jw_H} {o : Nat} (hfo : (σ 57 6).toNat = o) (hp : jx_po n o) (hP : jx_Pb σ o) {t : Int} (ht : 0 ≤ t ∧ t ≤ 1048575) : jw_T (js_S n) 7 4 [.inr (.inr 57), .inl t] σ (fun r σ' => ∃ m v, r = some (.inl v) ∧ jx_fq σ σ' ∧ jx_ra (jx_M σ o) t m ∧ (v = 1 ∧ m = 0 ∨ v = 0 ∧ m ≠ 0)) := by
  refine jw_T_of (D := 6) (M := mm_4) rfl (Nat.le_of_ble_eq_true rfl) (ls0 := [some (.inr (.inr 57)), some (.inl t)]) rfl ?_ (by rintro _ _ ⟨_, v, rfl, -, -, ⟨rfl, -⟩ | ⟨rfl, -⟩⟩ <;> rfl)
  have ho := hp.1
  have hM := jx_Pb_M hP
  have hq := hP.1
  have hw := hP.2.1
  have hq2 := hP.2.2.1
  refine jw_W_n 2 (i' := 2) (ls' := [some (.inr (.inr 57)), some (.inl t)]) (st' := [.inl t, .inr (.inr 57)]) rfl ?_
  refine jw_W_call (as := [.inr (.inr 57), .inl t]) (rest := []) rfl rfl rfl rfl (Nat.le_of_ble_eq_true rfl) (.inr rfl) (jx_findRisen hfo hp hP ht) (by omega) ?_ rfl
  rintro r1 σ1 ⟨m, rfl, hf, hra⟩
  have hm := hra.1
  show jw_W (js_S n) _ md_4 3 [some (.inr (.inr 57)), some (.inl t)] [.inl m] σ1 _
  refine jw_W_if rfl (by unfold jw_rg; omega) (fun hc1 => ?_) (fun hc1 => ?_)
  · have hc1 : m ≠ 0 := hc1
    refine jw_W_n 1 (i' := 7) (ls' := [some (.inr (.inr 57)), some (.inl t)]) (st' := [.inl 0]) rfl ?_
    refine jw_W_ir rfl ?_
    exact ⟨_, _, rfl, hf, hra, .inr ⟨rfl, by omega⟩⟩
  · have hc1 : m = 0 := Classical.not_not.mp hc1
    refine jw_W_n 2 (i' := 7) (ls' := [some (.inr (.inr 57)), some (.inl t)]) (st' := [.inl 1]) rfl ?_
    refine jw_W_ir rfl ?_
    exact ⟨_, _, rfl, hf, hra, .inl ⟨rfl, by omega⟩⟩

/-! ===== the class: its corners are built ===== -/
theorem jx_fL_pq {μ ν : jw_H} {wo ra : Int} (h : jx_pq μ ν) (q3 : ν 103 3 ≤ 3) : ∀ k : Nat, (k : Int) ≤ ν 103 5 + 2 * ν 103 3 → jx_fL μ wo ra k = jx_fL ν wo ra k
  | 0, _ => rfl
  | k + 1, hk => by
    unfold jx_fL
    rw [jx_fL_pq h q3 k (by omega), jx_pq_rn h (by omega), jx_pq_if h (by omega) (by omega) q3]
theorem jw_cp_o {σ : jw_H} {o d o' : Nat} {sp dp n : Int} (h : o' ≠ d) : jw_cp σ o sp d dp n o' = σ o' := by
  funext j
  exact if_neg (fun hh => h hh.1)
theorem jw_cp_i {σ : jw_H} {o d : Nat} {sp dp n j : Int} (h : dp ≤ j) (h' : j < dp + n) : jw_cp σ o sp d dp n d j = σ o (sp + (j - dp)) := if_pos ⟨rfl, h, h'⟩
theorem jx_copy {n : Nat} {σ : jw_H} (hm : 0 ≤ σ 48 0 ∧ σ 48 0 ≤ 64) : jw_T (js_S n) 1 58 [.inr (.inr 58), .inr (.inr 48)] σ (fun r σ' => r = none ∧ (∀ c, (c < 58 ∨ 62 < c) → σ' c = σ c) ∧ σ' 58 0 = σ 48 0 ∧ ∀ i, 0 ≤ i → i < σ 48 0 → jx_pt σ' 58 i = jx_pt σ 48 i) := by
  refine jw_T_of (D := 0) (M := mm_58) rfl (Nat.le_of_ble_eq_true rfl) (ls0 := [some (.inr (.inr 58)), some (.inr (.inr 48))]) rfl ?_ (by rintro _ _ ⟨rfl, -⟩; rfl)
  refine jw_W_n 2 (i' := 2) (ls' := [some (.inr (.inr 58)), some (.inr (.inr 48))]) (st' := [.inr (.inr 48), .inr (.inr 58)]) rfl ?_
  refine jw_W_gf rfl rfl rfl ?_
  show jw_W (js_S n) _ md_58 3 [some (.inr (.inr 58)), some (.inr (.inr 48))] [.inl (σ 48 0), .inr (.inr 58)] σ _
  refine jw_W_pf (a := σ 48 0) rfl (by omega) rfl rfl rfl rfl rfl ?_
  refine jw_W_n 1 (i' := 5) (ls' := [some (.inr (.inr 58)), some (.inr (.inr 48))]) (st' := [.inr (.inr 48)]) rfl ?_
  refine jw_W_gf rfl rfl rfl ?_
  show jw_W (js_S n) _ md_58 6 [some (.inr (.inr 58)), some (.inr (.inr 48))] [.inr (.inr 49)] ((jw_up σ 58 0 (σ 48 0))) _
  refine jw_W_n 2 (i' := 8) (ls' := [some (.inr (.inr 58)), some (.inr (.inr 48))]) (st' := [.inr (.inr 58), .inl 0, .inr (.inr 49)]) rfl ?_
  refine jw_W_gf rfl rfl rfl ?_
  show jw_W (js_S n) _ md_58 9 [some (.inr (.inr 58)), some (.inr (.inr 48))] [.inr (.inr 59), .inl 0, .inr (.inr 49)] ((jw_up σ 58 0 (σ 48 0))) _
  refine jw_W_n 2 (i' := 11) (ls' := [some (.inr (.inr 58)), some (.inr (.inr 48))]) (st' := [.inr (.inr 58), .inl 0, .inr (.inr 59), .inl 0, .inr (.inr 49)]) rfl ?_
  refine jw_W_gf rfl rfl rfl ?_
  show jw_W (js_S n) _ md_58 12 [some (.inr (.inr 58)), some (.inr (.inr 48))] [.inl (σ 48 0), .inl 0, .inr (.inr 59), .inl 0, .inr (.inr 49)] ((jw_up σ 58 0 (σ 48 0))) _
  refine jw_W_cp rfl rfl (by omega) rfl rfl (by omega) (by omega) (by omega) (by omega) (by omega) (by omega) (by omega) (Nat.le_of_ble_eq_true rfl) ?_
  refine jw_W_n 1 (i' := 14) (ls' := [some (.inr (.inr 58)), some (.inr (.inr 48))]) (st' := [.inr (.inr 48)]) rfl ?_
  refine jw_W_gf rfl rfl rfl ?_
  show jw_W (js_S n) _ md_58 15 [some (.inr (.inr 58)), some (.inr (.inr 48))] [.inr (.inr 50)] ((jw_cp ((jw_up σ 58 0 (σ 48 0))) 49 0 59 0 (σ 48 0))) _
  refine jw_W_n 2 (i' := 17) (ls' := [some (.inr (.inr 58)), some (.inr (.inr 48))]) (st' := [.inr (.inr 58), .inl 0, .inr (.inr 50)]) rfl ?_
  refine jw_W_gf rfl rfl rfl ?_
  show jw_W (js_S n) _ md_58 18 [some (.inr (.inr 58)), some (.inr (.inr 48))] [.inr (.inr 60), .inl 0, .inr (.inr 50)] ((jw_cp ((jw_up σ 58 0 (σ 48 0))) 49 0 59 0 (σ 48 0))) _
  refine jw_W_n 2 (i' := 20) (ls' := [some (.inr (.inr 58)), some (.inr (.inr 48))]) (st' := [.inr (.inr 58), .inl 0, .inr (.inr 60), .inl 0, .inr (.inr 50)]) rfl ?_
  refine jw_W_gf rfl rfl rfl ?_
  show jw_W (js_S n) _ md_58 21 [some (.inr (.inr 58)), some (.inr (.inr 48))] [.inl ((jw_cp ((jw_up σ 58 0 (σ 48 0))) 49 0 59 0 (σ 48 0)) 58 0), .inl 0, .inr (.inr 60), .inl 0, .inr (.inr 50)] ((jw_cp ((jw_up σ 58 0 (σ 48 0))) 49 0 59 0 (σ 48 0))) _
  rw [show (jw_cp ((jw_up σ 58 0 (σ 48 0))) 49 0 59 0 (σ 48 0)) 58 0 = σ 48 0 from rfl]
  refine jw_W_cp rfl rfl (by omega) rfl rfl (by omega) (by omega) (by omega) (by omega) (by omega) (by omega) (by omega) (Nat.le_of_ble_eq_true rfl) ?_
  refine jw_W_n 1 (i' := 23) (ls' := [some (.inr (.inr 58)), some (.inr (.inr 48))]) (st' := [.inr (.inr 48)]) rfl ?_
  refine jw_W_gf rfl rfl rfl ?_
  show jw_W (js_S n) _ md_58 24 [some (.inr (.inr 58)), some (.inr (.inr 48))] [.inr (.inr 51)] ((jw_cp ((jw_cp ((jw_up σ 58 0 (σ 48 0))) 49 0 59 0 (σ 48 0))) 50 0 60 0 (σ 48 0))) _
  refine jw_W_n 2 (i' := 26) (ls' := [some (.inr (.inr 58)), some (.inr (.inr 48))]) (st' := [.inr (.inr 58), .inl 0, .inr (.inr 51)]) rfl ?_
  refine jw_W_gf rfl rfl rfl ?_
  show jw_W (js_S n) _ md_58 27 [some (.inr (.inr 58)), some (.inr (.inr 48))] [.inr (.inr 61), .inl 0, .inr (.inr 51)] ((jw_cp ((jw_cp ((jw_up σ 58 0 (σ 48 0))) 49 0 59 0 (σ 48 0))) 50 0 60 0 (σ 48 0))) _
  refine jw_W_n 2 (i' := 29) (ls' := [some (.inr (.inr 58)), some (.inr (.inr 48))]) (st' := [.inr (.inr 58), .inl 0, .inr (.inr 61), .inl 0, .inr (.inr 51)]) rfl ?_
  refine jw_W_gf rfl rfl rfl ?_
  show jw_W (js_S n) _ md_58 30 [some (.inr (.inr 58)), some (.inr (.inr 48))] [.inl ((jw_cp ((jw_cp ((jw_up σ 58 0 (σ 48 0))) 49 0 59 0 (σ 48 0))) 50 0 60 0 (σ 48 0)) 58 0), .inl 0, .inr (.inr 61), .inl 0, .inr (.inr 51)] ((jw_cp ((jw_cp ((jw_up σ 58 0 (σ 48 0))) 49 0 59 0 (σ 48 0))) 50 0 60 0 (σ 48 0))) _
  rw [show (jw_cp ((jw_cp ((jw_up σ 58 0 (σ 48 0))) 49 0 59 0 (σ 48 0))) 50 0 60 0 (σ 48 0)) 58 0 = σ 48 0 from rfl]
  refine jw_W_cp rfl rfl (by omega) rfl rfl (by omega) (by omega) (by omega) (by omega) (by omega) (by omega) (by omega) (Nat.le_of_ble_eq_true rfl) ?_
  refine jw_W_n 1 (i' := 32) (ls' := [some (.inr (.inr 58)), some (.inr (.inr 48))]) (st' := [.inr (.inr 48)]) rfl ?_
  refine jw_W_gf rfl rfl rfl ?_
  show jw_W (js_S n) _ md_58 33 [some (.inr (.inr 58)), some (.inr (.inr 48))] [.inr (.inr 52)] ((jw_cp ((jw_cp ((jw_cp ((jw_up σ 58 0 (σ 48 0))) 49 0 59 0 (σ 48 0))) 50 0 60 0 (σ 48 0))) 51 0 61 0 (σ 48 0))) _
  refine jw_W_n 2 (i' := 35) (ls' := [some (.inr (.inr 58)), some (.inr (.inr 48))]) (st' := [.inr (.inr 58), .inl 0, .inr (.inr 52)]) rfl ?_
  refine jw_W_gf rfl rfl rfl ?_
  show jw_W (js_S n) _ md_58 36 [some (.inr (.inr 58)), some (.inr (.inr 48))] [.inr (.inr 62), .inl 0, .inr (.inr 52)] ((jw_cp ((jw_cp ((jw_cp ((jw_up σ 58 0 (σ 48 0))) 49 0 59 0 (σ 48 0))) 50 0 60 0 (σ 48 0))) 51 0 61 0 (σ 48 0))) _
  refine jw_W_n 2 (i' := 38) (ls' := [some (.inr (.inr 58)), some (.inr (.inr 48))]) (st' := [.inr (.inr 58), .inl 0, .inr (.inr 62), .inl 0, .inr (.inr 52)]) rfl ?_
  refine jw_W_gf rfl rfl rfl ?_
  show jw_W (js_S n) _ md_58 39 [some (.inr (.inr 58)), some (.inr (.inr 48))] [.inl ((jw_cp ((jw_cp ((jw_cp ((jw_up σ 58 0 (σ 48 0))) 49 0 59 0 (σ 48 0))) 50 0 60 0 (σ 48 0))) 51 0 61 0 (σ 48 0)) 58 0), .inl 0, .inr (.inr 62), .inl 0, .inr (.inr 52)] ((jw_cp ((jw_cp ((jw_cp ((jw_up σ 58 0 (σ 48 0))) 49 0 59 0 (σ 48 0))) 50 0 60 0 (σ 48 0))) 51 0 61 0 (σ 48 0))) _
  rw [show (jw_cp ((jw_cp ((jw_cp ((jw_up σ 58 0 (σ 48 0))) 49 0 59 0 (σ 48 0))) 50 0 60 0 (σ 48 0))) 51 0 61 0 (σ 48 0)) 58 0 = σ 48 0 from rfl]
  refine jw_W_cp rfl rfl (by omega) rfl rfl (by omega) (by omega) (by omega) (by omega) (by omega) (by omega) (by omega) (Nat.le_of_ble_eq_true rfl) ?_
  refine jw_W_re rfl ?_
  refine ⟨rfl, ?_, ?_, fun i i0 i1 => ?_⟩
  · intro c hc
    rw [jw_cp_o (by omega), jw_cp_o (by omega), jw_cp_o (by omega), jw_cp_o (by omega), jw_up_out _ _ _ (by omega)]
  · rw [jw_cp_o (by omega), jw_cp_o (by omega), jw_cp_o (by omega), jw_cp_o (by omega)]
    exact jw_up_eq _ _ _ _
  · have z : (0 : Int) + (i - 0) = i := by omega
    unfold jx_pt
    simp only [Nat.reduceAdd]
    rw [jw_cp_o (o' := 59) (by omega), jw_cp_o (o' := 59) (by omega), jw_cp_o (o' := 59) (by omega), jw_cp_i (by omega) (by omega), z, jw_up_out _ _ _ (by omega)]
    rw [jw_cp_o (o' := 60) (by omega), jw_cp_o (o' := 60) (by omega), jw_cp_i (by omega) (by omega), z, jw_cp_o (o' := 50) (by omega), jw_up_out _ _ _ (by omega)]
    rw [jw_cp_o (o' := 61) (by omega), jw_cp_i (by omega) (by omega), z, jw_cp_o (o' := 51) (by omega), jw_cp_o (o' := 51) (by omega), jw_up_out _ _ _ (by omega)]
    rw [jw_cp_i (by omega) (by omega), z, jw_cp_o (o' := 52) (by omega), jw_cp_o (o' := 52) (by omega), jw_cp_o (o' := 52) (by omega), jw_up_out _ _ _ (by omega)]
theorem jx_pr_bd {μ : jw_H} {k : Int} {v : ge_R} (hP : jm_Pb μ) (k0 : 0 ≤ k) (k1 : k < μ 103 5 + 2 * μ 103 3) (hv : jx_bd v) : -1000000 ≤ ge_s (jx_pr μ k) v ∧ ge_s (jx_pr μ k) v ≤ 1000000 := by
  have hq := hP.1
  have a0 := jm_pf_sm hP k0 (j := 0) (by omega) (by omega)
  have a1 := jm_pf_sm hP k0 (j := 1) (by omega) (by omega)
  have a2 := jm_pf_sm hP k0 (j := 2) (by omega) (by omega)
  have a3 : -99 ≤ jm_if μ k ∧ jm_if μ k ≤ 99 := by
    unfold jm_if
    split
    · rename_i h
      have := (hP.2.2.2.1 k k0 h).2.1
      omega
    · split
      · omega
      · have := hP.2.2.2.2.1 (k - μ 103 5 - μ 103 3) (by omega) (by omega)
        omega
  obtain ⟨v1, v2, v3, v4, v5⟩ := hv
  have e1 := jx_mm (A := 3) a0 v1
  have e2 := jx_mm (A := 3) a1 v2
  have e3 := jx_mm (A := 3) a2 v3
  have e4 := jx_mm (A := 99) (X := 162) a3 (show -162 ≤ v.2.2.2 ∧ v.2.2.2 ≤ 162 by omega)
  simp only [ge_s, jx_pr]
  omega
/-- the corners so far: how many planes are tight told of the first ones -/
def jx_bi (σ0 : jw_H) (o : Nat) (P : List ge_R) (σ : jw_H) (i : Int) : Prop := (∀ c, (c < 47 ∨ 63 < c) → σ c = σ0 c) ∧ (σ 57 0 = (P.length : Int) ∧ σ 57 6 = (o : Int) ∧ σ 57 9 = 0) ∧ jx_pl σ 58 P ∧ ∀ (j : Nat) (v : ge_R), P[j]? = some v → (j : Int) < i → jx_tt (jx_M σ0 o) v (σ0 o 2 + 2 * σ0 o 0) (σ 63 (j : Int))
theorem jx_bi_s {σ0 σ : jw_H} {o : Nat} {P : List ge_R} {i t : Int} {v : ge_R} (h : jx_bi σ0 o P σ i) (i0 : 0 ≤ i) (hv : P[i.toNat]? = some v) (ht : jx_tt (jx_M σ0 o) v (σ0 o 2 + 2 * σ0 o 0) t) : jx_bi σ0 o P (jw_up σ 63 i t) (i + 1) := by
  obtain ⟨h1, ⟨h2, h3, h4⟩, h5, h6⟩ := h
  refine ⟨fun c hc => ?_, ⟨?_, ?_, ?_⟩, ⟨?_, fun j x hx => ?_⟩, fun j x hx hj => ?_⟩
  · rw [jw_up_out _ _ _ (by omega)]
    exact h1 c hc
  · rw [jw_up_ne _ (by omega)]
    exact h2
  · rw [jw_up_ne _ (by omega)]
    exact h3
  · rw [jw_up_ne _ (by omega)]
    exact h4
  · rw [jw_up_ne _ (by omega)]
    exact h5.1
  · rw [← h5.2 j x hx]
    unfold jx_pt
    rw [jw_up_ne _ (by omega), jw_up_ne _ (by omega), jw_up_ne _ (by omega), jw_up_ne _ (by omega)]
  · by_cases e : (j : Int) = i
    · rw [e, jw_up_eq]
      rw [show j = i.toNat by omega] at hx
      rw [hx] at hv
      cases hv
      exact ht
    · rw [jw_up_ne _ (by omega)]
      exact h6 j x hx (by omega)
/-- what build leaves -/
def jx_bd1 (σ0 : jw_H) (o : Nat) (σ : jw_H) : Prop := ∃ P, jx_so P ∧ P.length ≤ 20 ∧ (∀ v, v ∈ P ↔ ge_V (jm_R (jx_M σ0 o)) v ∧ ge_g v = 1) ∧ jx_bi σ0 o P σ (P.length : Int)
theorem jx_prM {μ ν : jw_H} (h : jx_pq μ ν) {k : Int} (k0 : 0 ≤ k) (k1 : k < ν 103 5 + 2 * ν 103 3) (q3 : ν 103 3 ≤ 3) : jx_pr μ k = jx_pr ν k := by
  unfold jx_pr
  rw [jx_pq_pf h k0 (by omega) (by omega), jx_pq_pf h k0 (by omega) (by omega), jx_pq_pf h k0 (by omega) (by omega), jx_pq_if h k0 k1 q3]
theorem jx_ttM {μ ν : jw_H} (h : jx_pq μ ν) {v : ge_R} {m t : Int} (hm : m = ν 103 5 + 2 * ν 103 3) (q3 : ν 103 3 ≤ 3) : jx_tt μ v m t = jx_tt ν v m t := by
  apply propext
  constructor
  · rintro ⟨h1, h2⟩
    refine ⟨h1, fun b => (h2 b).trans ⟨fun hh => ⟨hh.1, ?_⟩, fun hh => ⟨hh.1, ?_⟩⟩⟩
    · rw [← jx_prM h (by omega) (by omega) q3]
      exact hh.2
    · rw [jx_prM h (by omega) (by omega) q3]
      exact hh.2
  · rintro ⟨h1, h2⟩
    refine ⟨h1, fun b => (h2 b).trans ⟨fun hh => ⟨hh.1, ?_⟩, fun hh => ⟨hh.1, ?_⟩⟩⟩
    · rw [jx_prM h (by omega) (by omega) q3]
      exact hh.2
    · rw [← jx_prM h (by omega) (by omega) q3]
      exact hh.2
theorem jx_build_loop {n : Nat} {σ0 : jw_H} {o : Nat} {P : List ge_R} (hp : jx_po n o) (hP : jx_Pb σ0 o) (hso : jx_so P) (hlen : P.length ≤ 20) (hV : ∀ v, v ∈ P ↔ ge_V (jm_R (jx_M σ0 o)) v ∧ ge_g v = 1) : ∀ (f : Nat) {σ : jw_H} {i : Int}, 0 ≤ i → i + f = (P.length : Int) → jx_bi σ0 o P σ i → jw_W (js_S n) 5 md_1 30 [some (.inr (.inr 57)), some (.inr (.inr o)), some (.inl i)] [] σ (fun r σ' => r = none ∧ jx_bd1 σ0 o σ')
  | f, σ, i, i0, hk, H => by
    have ih : ∀ {σ' : jw_H}, i < (P.length : Int) → jx_bi σ0 o P σ' (i + 1) → jw_W (js_S n) 5 md_1 30 [some (.inr (.inr 57)), some (.inr (.inr o)), some (.inl (i + 1))] [] σ' (fun r σ' => r = none ∧ jx_bd1 σ0 o σ') := by
      intro σ' h1 h2
      match f, hk with
      | 0, hk => omega
      | f + 1, hk => exact jx_build_loop hp hP hso hlen hV f (by omega) (by omega) h2
    have ho := hp.1
    have hq := hP.1
    have hq2 := hP.2.2.1
    have hM := jx_Pb_M hP
    have fo : ∀ c, o ≤ c → c ≤ o + 5 → σ c = σ0 c := fun c h1 h2 => H.1 c (by omega)
    have f0 : σ o 0 = σ0 o 0 := by rw [fo o (by omega) (by omega)]
    have f2 : σ o 2 = σ0 o 2 := by rw [fo o (by omega) (by omega)]
    have hP1 := jx_Pb_fr fo hP
    have hpq := jx_M_fr fo
    have e570 := H.2.1.1
    refine jw_W_n 2 (i' := 32) (ls' := [some (.inr (.inr 57)), some (.inr (.inr o)), some (.inl i)]) (st' := [.inr (.inr 57), .inl i]) rfl ?_
    refine jw_W_gf rfl rfl rfl ?_
    show jw_W (js_S n) _ md_1 33 [some (.inr (.inr 57)), some (.inr (.inr o)), some (.inl i)] [.inl (σ 57 0), .inl i] σ _
    refine jw_W_ic rfl (by unfold jw_rg; omega) (by unfold jw_rg; omega) (fun hc1 => ?_) (fun hc1 => ?_)
    · have hc1 : i ≥ (σ 57 0) := hc1
      refine jw_W_re rfl ?_
      have hkl : i = (P.length : Int) := by omega
      subst hkl
      exact ⟨rfl, P, hso, hlen, hV, H⟩
    · have hc1 : ¬ (i ≥ (σ 57 0)) := hc1
      have hg := List.getElem?_eq_getElem (l := P) (i := i.toNat) (by omega)
      have ept := H.2.2.1.2 _ _ hg
      rw [Int.toNat_of_nonneg i0] at ept
      have ept : ((σ 59 i, σ 60 i, σ 61 i, σ 62 i) : ge_R) = P[i.toNat] := ept
      have hmem := (hV _).mp (List.getElem_mem (l := P) (n := i.toNat) (by omega))
      have hbd := (jx_fV_bd (E := []) (wo := -1) (ra := -1) hM (by rw [jx_M5]; omega) (by rw [jx_M5]; omega) (fun r hr => by cases hr) hmem.1 hmem.2).2
      refine jw_W_n 1 (i' := 35) (ls' := [some (.inr (.inr 57)), some (.inr (.inr o)), some (.inl i)]) (st' := [.inr (.inr 57)]) rfl ?_
      refine jw_W_gf rfl rfl rfl ?_
      show jw_W (js_S n) _ md_1 36 [some (.inr (.inr 57)), some (.inr (.inr o)), some (.inl i)] [.inr (.inr 63)] σ _
      refine jw_W_n 3 (i' := 39) (ls' := [some (.inr (.inr 57)), some (.inr (.inr o)), some (.inl i)]) (st' := [.inr (.inr 57), .inr (.inr o), .inl i, .inr (.inr 63)]) rfl ?_
      refine jw_W_gf rfl rfl rfl ?_
      show jw_W (js_S n) _ md_1 40 [some (.inr (.inr 57)), some (.inr (.inr o)), some (.inl i)] [.inr (.inr 58), .inr (.inr o), .inl i, .inr (.inr 63)] σ _
      refine jw_W_gf rfl rfl rfl ?_
      show jw_W (js_S n) _ md_1 41 [some (.inr (.inr 57)), some (.inr (.inr o)), some (.inl i)] [.inr (.inr 59), .inr (.inr o), .inl i, .inr (.inr 63)] σ _
      refine jw_W_n 1 (i' := 42) (ls' := [some (.inr (.inr 57)), some (.inr (.inr o)), some (.inl i)]) (st' := [.inl i, .inr (.inr 59), .inr (.inr o), .inl i, .inr (.inr 63)]) rfl ?_
      refine jw_W_ia rfl rfl (by omega) (by omega) (by omega) ?_
      show jw_W (js_S n) _ md_1 43 [some (.inr (.inr 57)), some (.inr (.inr o)), some (.inl i)] [.inl (σ 59 i), .inr (.inr o), .inl i, .inr (.inr 63)] σ _
      refine jw_W_n 1 (i' := 44) (ls' := [some (.inr (.inr 57)), some (.inr (.inr o)), some (.inl i)]) (st' := [.inr (.inr 57), .inl (σ 59 i), .inr (.inr o), .inl i, .inr (.inr 63)]) rfl ?_
      refine jw_W_gf rfl rfl rfl ?_
      show jw_W (js_S n) _ md_1 45 [some (.inr (.inr 57)), some (.inr (.inr o)), some (.inl i)] [.inr (.inr 58), .inl (σ 59 i), .inr (.inr o), .inl i, .inr (.inr 63)] σ _
      refine jw_W_gf rfl rfl rfl ?_
      show jw_W (js_S n) _ md_1 46 [some (.inr (.inr 57)), some (.inr (.inr o)), some (.inl i)] [.inr (.inr 60), .inl (σ 59 i), .inr (.inr o), .inl i, .inr (.inr 63)] σ _
      refine jw_W_n 1 (i' := 47) (ls' := [some (.inr (.inr 57)), some (.inr (.inr o)), some (.inl i)]) (st' := [.inl i, .inr (.inr 60), .inl (σ 59 i), .inr (.inr o), .inl i, .inr (.inr 63)]) rfl ?_
      refine jw_W_ia rfl rfl (by omega) (by omega) (by omega) ?_
      show jw_W (js_S n) _ md_1 48 [some (.inr (.inr 57)), some (.inr (.inr o)), some (.inl i)] [.inl (σ 60 i), .inl (σ 59 i), .inr (.inr o), .inl i, .inr (.inr 63)] σ _
      refine jw_W_n 1 (i' := 49) (ls' := [some (.inr (.inr 57)), some (.inr (.inr o)), some (.inl i)]) (st' := [.inr (.inr 57), .inl (σ 60 i), .inl (σ 59 i), .inr (.inr o), .inl i, .inr (.inr 63)]) rfl ?_
      refine jw_W_gf rfl rfl rfl ?_
      show jw_W (js_S n) _ md_1 50 [some (.inr (.inr 57)), some (.inr (.inr o)), some (.inl i)] [.inr (.inr 58), .inl (σ 60 i), .inl (σ 59 i), .inr (.inr o), .inl i, .inr (.inr 63)] σ _
      refine jw_W_gf rfl rfl rfl ?_
      show jw_W (js_S n) _ md_1 51 [some (.inr (.inr 57)), some (.inr (.inr o)), some (.inl i)] [.inr (.inr 61), .inl (σ 60 i), .inl (σ 59 i), .inr (.inr o), .inl i, .inr (.inr 63)] σ _
      refine jw_W_n 1 (i' := 52) (ls' := [some (.inr (.inr 57)), some (.inr (.inr o)), some (.inl i)]) (st' := [.inl i, .inr (.inr 61), .inl (σ 60 i), .inl (σ 59 i), .inr (.inr o), .inl i, .inr (.inr 63)]) rfl ?_
      refine jw_W_ia rfl rfl (by omega) (by omega) (by omega) ?_
      show jw_W (js_S n) _ md_1 53 [some (.inr (.inr 57)), some (.inr (.inr o)), some (.inl i)] [.inl (σ 61 i), .inl (σ 60 i), .inl (σ 59 i), .inr (.inr o), .inl i, .inr (.inr 63)] σ _
      refine jw_W_n 1 (i' := 54) (ls' := [some (.inr (.inr 57)), some (.inr (.inr o)), some (.inl i)]) (st' := [.inr (.inr 57), .inl (σ 61 i), .inl (σ 60 i), .inl (σ 59 i), .inr (.inr o), .inl i, .inr (.inr 63)]) rfl ?_
      refine jw_W_gf rfl rfl rfl ?_
      show jw_W (js_S n) _ md_1 55 [some (.inr (.inr 57)), some (.inr (.inr o)), some (.inl i)] [.inr (.inr 58), .inl (σ 61 i), .inl (σ 60 i), .inl (σ 59 i), .inr (.inr o), .inl i, .inr (.inr 63)] σ _
      refine jw_W_gf rfl rfl rfl ?_
      show jw_W (js_S n) _ md_1 56 [some (.inr (.inr 57)), some (.inr (.inr o)), some (.inl i)] [.inr (.inr 62), .inl (σ 61 i), .inl (σ 60 i), .inl (σ 59 i), .inr (.inr o), .inl i, .inr (.inr 63)] σ _
      refine jw_W_n 1 (i' := 57) (ls' := [some (.inr (.inr 57)), some (.inr (.inr o)), some (.inl i)]) (st' := [.inl i, .inr (.inr 62), .inl (σ 61 i), .inl (σ 60 i), .inl (σ 59 i), .inr (.inr o), .inl i, .inr (.inr 63)]) rfl ?_
      refine jw_W_ia rfl rfl (by omega) (by omega) (by omega) ?_
      show jw_W (js_S n) _ md_1 58 [some (.inr (.inr 57)), some (.inr (.inr o)), some (.inl i)] [.inl (σ 62 i), .inl (σ 61 i), .inl (σ 60 i), .inl (σ 59 i), .inr (.inr o), .inl i, .inr (.inr 63)] σ _
      refine jw_W_call (as := [.inr (.inr o), .inl (σ 59 i), .inl (σ 60 i), .inl (σ 61 i), .inl (σ 62 i)]) (rest := [.inl i, .inr (.inr 63)]) rfl rfl rfl rfl (Nat.le_of_ble_eq_true rfl) (.inr (jx_rc hp.2.1)) (jx_tightAt hp hP1 (fun k k0 k1 => by rw [ept]; rw [f2, f0] at k1; rw [jx_prM hpq k0 (by rw [jx_M5, jx_M3]; exact k1) (by rw [jx_M3]; omega)]; exact jx_pr_bd hM k0 (by rw [jx_M5, jx_M3]; exact k1) hbd)) (by omega) ?_ rfl
      rintro r1 σ1 ⟨t, rfl, hs, htt⟩
      rw [hs]
      rw [ept, f2, f0, jx_ttM hpq (by rw [jx_M5, jx_M3]) (by rw [jx_M3]; omega)] at htt
      show jw_W (js_S n) _ md_1 59 [some (.inr (.inr 57)), some (.inr (.inr o)), some (.inl i)] [.inl t, .inl i, .inr (.inr 63)] σ _
      refine jw_W_is rfl (by omega) rfl (by omega) (by omega) (by omega) ?_
      refine jw_W_n 2 (i' := 30) (ls' := [some (.inr (.inr 57)), some (.inr (.inr o)), some (.inl (i + 1))]) (st' := []) rfl ?_
      exact ih (by omega) (jx_bi_s H i0 hg htt)
theorem jx_build {n : Nat} {σ : jw_H} {o : Nat} (hp : jx_po n o) (hP : jx_Pb σ o) : jw_T (js_S n) 6 1 [.inr (.inr 57), .inr (.inr o)] σ (fun r σ' => r = none ∧ jx_bd1 σ o σ') := by
  refine jw_T_of (D := 5) (M := mm_1) rfl (Nat.le_of_ble_eq_true rfl) (ls0 := [some (.inr (.inr 57)), some (.inr (.inr o)), none]) rfl ?_ (by rintro _ _ ⟨rfl, -⟩; rfl)
  have ho := hp.1
  have hq := hP.1
  have hw := hP.2.1
  have hq2 := hP.2.2.1
  have hM := jx_Pb_M hP
  have fo0 : ∀ c, o ≤ c → c ≤ o + 5 → (jw_up (jw_up σ 57 6 (o : Int)) 57 9 0) c = σ c := fun c h1 h2 => by rw [jw_up_out _ _ _ (by omega), jw_up_out _ _ _ (by omega)]
  have g0 : (jw_up (jw_up σ 57 6 (o : Int)) 57 9 0) o 0 = σ o 0 := by rw [fo0 o (by omega) (by omega)]
  have g2 : (jw_up (jw_up σ 57 6 (o : Int)) 57 9 0) o 2 = σ o 2 := by rw [fo0 o (by omega) (by omega)]
  have M0 : jx_fL (jx_M (jw_up (jw_up σ 57 6 (o : Int)) 57 9 0) o) (-1) (-1) ((jw_up (jw_up σ 57 6 (o : Int)) 57 9 0) o 2 + 2 * (jw_up (jw_up σ 57 6 (o : Int)) 57 9 0) o 0).toNat = jx_fL (jx_M σ o) (-1) (-1) (σ o 2 + 2 * σ o 0).toNat := by
    rw [g0, g2]
    exact jx_fL_pq (jx_M_fr fo0) (by rw [jx_M3]; omega) _ (by rw [jx_M5, jx_M3]; omega)
  have hll := jx_fL_len (jx_M σ o) (-1) (-1) (σ o 2 + 2 * σ o 0).toNat
  have hln : (jx_nx (σ o 0)).length + (σ o 0).toNat = 3 := by
    rcases (show σ o 0 = 1 ∨ σ o 0 = 2 ∨ σ o 0 = 3 by omega) with e | e | e <;> rw [e] <;> rfl
  have hl24 : (jx_fL (jx_M σ o) (-1) (-1) (σ o 2 + 2 * σ o 0).toNat ++ jx_nx (σ o 0)).length ≤ 24 := by
    rw [List.length_append]
    omega
  have hl10 : (jx_fL (jx_M σ o) (-1) (-1) (σ o 2 + 2 * σ o 0).toNat ++ jx_nx (σ o 0)).length ≤ 10 := by
    rw [List.length_append]
    omega
  have hVe : ∀ v, ge_V (jx_fL (jx_M σ o) (-1) (-1) (σ o 2 + 2 * σ o 0).toNat ++ jx_nx (σ o 0)) v ↔ ge_V (jm_R (jx_M σ o)) v := fun v => by
    have := jx_fill_V (wo := -1) (ra := -1) hM (by rw [jx_M5]; omega) (by rw [jx_M5]; omega) [] (fun r hr => by cases hr) v
    rw [List.append_nil, List.nil_append] at this
    exact this
  have hVb : ∀ v, ge_V (jx_fL (jx_M σ o) (-1) (-1) (σ o 2 + 2 * σ o 0).toNat ++ jx_nx (σ o 0)) v → ge_g v = 1 → (jm_in4 1458 v ∧ v.2.2.2 ≤ 162) ∧ jx_bd v := fun v hv hg => jx_fV_bd (E := []) (wo := -1) (ra := -1) hM (by rw [jx_M5]; omega) (by rw [jx_M5]; omega) (fun r hr => by cases hr) ((hVe v).mp hv) hg
  have hrb : ∀ r ∈ jx_fL (jx_M σ o) (-1) (-1) (σ o 2 + 2 * σ o 0).toNat ++ jx_nx (σ o 0), jx_rb r := fun r hr => jx_fL_rb (wo := -1) (ra := -1) hM (by rw [jx_M5]; omega) (by rw [jx_M5]; omega) hr
  refine jw_W_n 2 (i' := 2) (ls' := [some (.inr (.inr 57)), some (.inr (.inr o)), none]) (st' := [.inr (.inr o), .inr (.inr 57)]) rfl ?_
  refine jw_W_pf (a := o) rfl (by omega) rfl rfl rfl rfl rfl ?_
  refine jw_W_n 2 (i' := 5) (ls' := [some (.inr (.inr 57)), some (.inr (.inr o)), none]) (st' := [.inl 0, .inr (.inr 57)]) rfl ?_
  refine jw_W_pf (a := 0) rfl (by omega) rfl rfl rfl rfl rfl ?_
  refine jw_W_n 1 (i' := 7) (ls' := [some (.inr (.inr 57)), some (.inr (.inr o)), none]) (st' := [.inr (.inr 57)]) rfl ?_
  refine jw_W_gf rfl rfl rfl ?_
  show jw_W (js_S n) _ md_1 8 [some (.inr (.inr 57)), some (.inr (.inr o)), none] [.inr (.inr 47)] ((jw_up (jw_up σ 57 6 o) 57 9 0)) _
  refine jw_W_n 3 (i' := 11) (ls' := [some (.inr (.inr 57)), some (.inr (.inr o)), none]) (st' := [.inl ((-1)), .inl ((-1)), .inr (.inr o), .inr (.inr 47)]) rfl ?_
  refine jw_W_call (as := [.inr (.inr 47), .inr (.inr o), .inl ((-1)), .inl ((-1))]) (rest := []) rfl rfl rfl rfl (Nat.le_of_ble_eq_true rfl) (.inr rfl) (jx_fill hp (jx_Pb_fr fo0 hP) (by unfold jw_rg; omega) (by unfold jw_rg; omega)) (by omega) ?_ rfl
  rintro r1 σ1 ⟨rfl, H1⟩
  rw [M0, g0] at H1
  show jw_W (js_S n) _ md_1 12 [some (.inr (.inr 57)), some (.inr (.inr o)), none] [] σ1 _
  refine jw_W_n 1 (i' := 13) (ls' := [some (.inr (.inr 57)), some (.inr (.inr o)), none]) (st' := [.inr (.inr 57)]) rfl ?_
  refine jw_W_gf rfl rfl rfl ?_
  show jw_W (js_S n) _ md_1 14 [some (.inr (.inr 57)), some (.inr (.inr o)), none] [.inr (.inr 47)] σ1 _
  refine jw_W_call (as := [.inr (.inr 47)]) (rest := []) rfl rfl rfl rfl (Nat.le_of_ble_eq_true rfl) (.inr rfl) (jx_find_L H1 hl24 (fun r hr => hrb r hr) (fun v hv hg => (hVb v hv hg).2)) (by omega) ?_ rfl
  rintro r1 σ2 ⟨rfl, hq1, P, p1, p2, p3⟩
  have hl20 : P.length ≤ 20 := by
    have := ge_count (Ps := P) (fun u hu => ((p3 u).mp hu).1) (p2.imp (fun hh => ge_lt_ne hh))
    omega
  have hm2 := p1.1
  show jw_W (js_S n) _ md_1 15 [some (.inr (.inr 57)), some (.inr (.inr o)), none] [] σ2 _
  refine jw_W_n 1 (i' := 16) (ls' := [some (.inr (.inr 57)), some (.inr (.inr o)), none]) (st' := [.inr (.inr 57)]) rfl ?_
  refine jw_W_gf rfl rfl rfl ?_
  show jw_W (js_S n) _ md_1 17 [some (.inr (.inr 57)), some (.inr (.inr o)), none] [.inr (.inr 58)] σ2 _
  refine jw_W_n 1 (i' := 18) (ls' := [some (.inr (.inr 57)), some (.inr (.inr o)), none]) (st' := [.inr (.inr 57), .inr (.inr 58)]) rfl ?_
  refine jw_W_gf rfl rfl rfl ?_
  show jw_W (js_S n) _ md_1 19 [some (.inr (.inr 57)), some (.inr (.inr o)), none] [.inr (.inr 47), .inr (.inr 58)] σ2 _
  refine jw_W_gf rfl rfl rfl ?_
  show jw_W (js_S n) _ md_1 20 [some (.inr (.inr 57)), some (.inr (.inr o)), none] [.inr (.inr 48), .inr (.inr 58)] σ2 _
  refine jw_W_call (as := [.inr (.inr 58), .inr (.inr 48)]) (rest := []) rfl rfl rfl rfl (Nat.le_of_ble_eq_true rfl) (.inr rfl) (jx_copy (by omega)) (by omega) ?_ rfl
  rintro r1 σ3 ⟨rfl, c1, c2, c3⟩
  have e0 : σ3 58 0 = (P.length : Int) := by rw [c2]; exact hm2
  show jw_W (js_S n) _ md_1 21 [some (.inr (.inr 57)), some (.inr (.inr o)), none] [] σ3 _
  refine jw_W_n 2 (i' := 23) (ls' := [some (.inr (.inr 57)), some (.inr (.inr o)), none]) (st' := [.inr (.inr 57), .inr (.inr 57)]) rfl ?_
  refine jw_W_gf rfl rfl rfl ?_
  show jw_W (js_S n) _ md_1 24 [some (.inr (.inr 57)), some (.inr (.inr o)), none] [.inr (.inr 58), .inr (.inr 57)] σ3 _
  refine jw_W_gf rfl rfl rfl ?_
  show jw_W (js_S n) _ md_1 25 [some (.inr (.inr 57)), some (.inr (.inr o)), none] [.inl (σ3 58 0), .inr (.inr 57)] σ3 _
  refine jw_W_n 1 (i' := 26) (ls' := [some (.inr (.inr 57)), some (.inr (.inr o)), none]) (st' := [.inl 24, .inl (σ3 58 0), .inr (.inr 57)]) rfl ?_
  refine jw_W_min rfl rfl (by unfold jw_rg; omega) (by unfold jw_rg; omega) (Nat.le_of_ble_eq_true rfl) ?_
  refine jw_W_pf (a := if 24 < σ3 58 0 then 24 else σ3 58 0) rfl (by omega) rfl rfl rfl rfl rfl ?_
  refine jw_W_n 2 (i' := 30) (ls' := [some (.inr (.inr 57)), some (.inr (.inr o)), some (.inl 0)]) (st' := []) rfl ?_
  have emin : (if 24 < σ3 58 0 then (24 : Int) else σ3 58 0) = (P.length : Int) := by rw [if_neg (by omega), e0]
  rw [emin]
  refine jx_build_loop hp hP p2 hl20 ?_ P.length (i := 0) (by omega) (by omega) ⟨fun c hc => ?_, ⟨jw_up_eq _ _ _ _, ?_, ?_⟩, ⟨?_, fun i x hx => ?_⟩, fun j v _ hj => by omega⟩
  · intro v
    rw [p3 v, show ge_V (jx_fL (jx_M σ o) (-1) (-1) (σ o 2 + 2 * σ o 0).toNat ++ jx_nx (σ o 0)) v ↔ ge_V (jm_R (jx_M σ o)) v from hVe v]
  · rw [jw_up_out _ _ _ (by omega), c1 c (by omega), hq1 c (by omega)]
    rw [jw_up_out _ _ _ (by omega), jw_up_out _ _ _ (by omega)]
  · rw [jw_up_ne _ (by omega), c1 57 (by omega), hq1 57 (by omega), jw_up_ne _ (by omega)]
    exact jw_up_eq _ _ _ _
  · rw [jw_up_ne _ (by omega), c1 57 (by omega), hq1 57 (by omega)]
    exact jw_up_eq _ _ _ _
  · rw [jw_up_ne _ (by omega)]
    exact e0
  · have hi := (List.getElem?_eq_some_iff.mp hx).1
    rw [← p1.2 i x hx, ← c3 i (by omega) (by omega)]
    unfold jx_pt
    rw [jw_up_ne _ (by omega), jw_up_ne _ (by omega), jw_up_ne _ (by omega), jw_up_ne _ (by omega)]

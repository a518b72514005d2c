/-! ===== the class: its problem ===== -/
theorem jx_rc {S : List jw_S} {c o : Nat} {ks : List Nat} {r : List jw_V} (h : S[o]? = some (.inl (c, ks))) : jw_rc S c (.inr (.inr o) :: r) = true := by
  simp only [jw_rc, h, BEq.rfl]
/-- o is an object that holds a problem -/
def jx_po (n o : Nat) : Prop := (o = 15 ∨ o = 21 ∨ o = 27) ∧ (js_S n)[o]? = some (.inl (4, [0, 0, 0, o + 4, o + 5, o + 6, o + 7, o + 8])) ∧ (js_S n)[o + 1]? = some (.inr (0, 9)) ∧ (js_S n)[o + 2]? = some (.inr (0, 12)) ∧ (js_S n)[o + 3]? = some (.inr (0, 4)) ∧ (js_S n)[o + 4]? = some (.inr (0, 4)) ∧ (js_S n)[o + 5]? = some (.inr (0, 3))
theorem jx_po_15 (n : Nat) : jx_po n 15 := ⟨by omega, rfl, rfl, rfl, rfl, rfl, rfl⟩
theorem jx_po_21 (n : Nat) : jx_po n 21 := ⟨by omega, rfl, rfl, rfl, rfl, rfl, rfl⟩
theorem jx_po_27 (n : Nat) : jx_po n 27 := ⟨by omega, rfl, rfl, rfl, rfl, rfl, rfl⟩
/-- the problem at o, laid as the reference has it -/
def jx_M (σ : jw_H) (o : Nat) : jw_H := fun c j => if c = 103 then (if j = 3 then σ o 0 else if j = 4 then σ o 1 else if j = 5 then σ o 2 else σ 103 j) else if c = 104 then σ (o + 1) j else if c = 105 then (if j % 5 < 3 then σ (o + 2) (3 * (j / 5) + j % 5) else if j % 5 = 3 then σ (o + 3) (j / 5) else σ (o + 4) (j / 5)) else if c = 106 then σ (o + 5) j else σ c j
theorem jx_M3 (σ : jw_H) (o : Nat) : jx_M σ o 103 3 = σ o 0 := rfl
theorem jx_M4 (σ : jw_H) (o : Nat) : jx_M σ o 103 4 = σ o 1 := rfl
theorem jx_M5 (σ : jw_H) (o : Nat) : jx_M σ o 103 5 = σ o 2 := rfl
theorem jx_Mw (σ : jw_H) (o : Nat) (j : Int) : jx_M σ o 104 j = σ (o + 1) j := rfl
theorem jx_Mb (σ : jw_H) (o : Nat) (j : Int) : jx_M σ o 106 j = σ (o + 5) j := rfl
theorem jx_Mk (σ : jw_H) (o : Nat) {k j : Int} (j0 : 0 ≤ j) (j1 : j < 3) : jx_M σ o 105 (5 * k + j) = σ (o + 2) (3 * k + j) := by
  show (if (5 * k + j) % 5 < 3 then σ (o + 2) (3 * ((5 * k + j) / 5) + (5 * k + j) % 5) else _) = _
  rw [show (5 * k + j) % 5 = j by omega, show (5 * k + j) / 5 = k by omega, if_pos j1]
theorem jx_Mn (σ : jw_H) (o : Nat) (k : Int) : jx_M σ o 105 (5 * k + 3) = σ (o + 3) k := by
  show (if (5 * k + 3) % 5 < 3 then _ else if (5 * k + 3) % 5 = 3 then σ (o + 3) ((5 * k + 3) / 5) else _) = _
  rw [show (5 * k + 3) % 5 = 3 by omega, show (5 * k + 3) / 5 = k by omega, if_neg (by omega), if_pos rfl]
theorem jx_Mi (σ : jw_H) (o : Nat) (k : Int) : jx_M σ o 105 (5 * k + 4) = σ (o + 4) k := by
  show (if (5 * k + 4) % 5 < 3 then _ else if (5 * k + 4) % 5 = 3 then _ else σ (o + 4) ((5 * k + 4) / 5)) = _
  rw [show (5 * k + 4) % 5 = 4 by omega, show (5 * k + 4) / 5 = k by omega, if_neg (by omega), if_neg (by omega)]
/-- the problem at o is one -/
def jx_Pb (σ : jw_H) (o : Nat) : Prop := (1 ≤ σ o 0 ∧ σ o 0 ≤ 3) ∧ (0 ≤ σ o 1 ∧ σ o 1 ≤ 3) ∧ (0 ≤ σ o 2 ∧ σ o 2 ≤ 4) ∧ (∀ k, 0 ≤ k → k < σ o 2 → (∀ j, 0 ≤ j → j < 3 → -3 ≤ σ (o + 2) (3 * k + j) ∧ σ (o + 2) (3 * k + j) ≤ 3 ∧ (σ o 0 ≤ j → σ (o + 2) (3 * k + j) = 0)) ∧ (0 ≤ σ (o + 3) k ∧ σ (o + 3) k ≤ 99) ∧ (0 ≤ σ (o + 4) k ∧ σ (o + 4) k ≤ 1)) ∧ (∀ j, 0 ≤ j → j < 3 → 1 ≤ σ (o + 5) j ∧ σ (o + 5) j ≤ 9) ∧ ∀ w, 0 ≤ w → w < σ o 1 → ∀ j, 0 ≤ j → j < 3 → -3 ≤ σ (o + 1) (3 * w + j) ∧ σ (o + 1) (3 * w + j) ≤ 3 ∧ (σ o 0 ≤ j → σ (o + 1) (3 * w + j) = 0)
theorem jx_Pb_M {σ : jw_H} {o : Nat} (h : jx_Pb σ o) : jm_Pb (jx_M σ o) := by
  obtain ⟨h1, h2, h3, h4, h5, h6⟩ := h
  refine ⟨h1, h2, h3, fun k k0 k1 => ?_, h5, h6⟩
  rw [jx_Mn, jx_Mi]
  refine ⟨fun j j0 j1 => ?_, (h4 k k0 k1).2⟩
  rw [jx_Mk σ o j0 j1]
  exact (h4 k k0 k1).1 j j0 j1
theorem jx_md {a q : Int} (a0 : 0 ≤ a) (a1 : a < 2 * q) : a % q = if a < q then a else a - q := by
  split
  · rename_i h
    exact Int.emod_eq_of_lt a0 h
  · rename_i h
    rw [show a = a - q + q by omega, Int.add_emod_right, Int.emod_eq_of_lt (by omega) (by omega)]
    omega
theorem jx_pf {σ : jw_H} {o : Nat} {k j : Int} (k0 : 0 ≤ k) (k1 : k < σ o 2 + 2 * σ o 0) (j0 : 0 ≤ j) (j1 : j < 3) : jm_pf (jx_M σ o) k j = if k < σ o 2 then σ (o + 2) (3 * k + j) else if (if k < σ o 2 + σ o 0 then k - σ o 2 else k - σ o 2 - σ o 0) = j then 1 else 0 := by
  unfold jm_pf
  rw [jx_M5, jx_M3, jx_Mk σ o j0 j1]
  split
  · rfl
  · rename_i h
    rw [jx_md (by omega) (by omega)]
    congr 1
    congr 1
    by_cases h2 : k < σ o 2 + σ o 0
    · rw [if_pos h2, if_pos (by omega)]
    · rw [if_neg h2, if_neg (by omega)]
theorem jx_kf (σ : jw_H) (o : Nat) (k : Int) : jm_kf (jx_M σ o) k = if k < σ o 2 then σ (o + 4) k else if k < σ o 2 + σ o 0 then 2 else 3 := by
  unfold jm_kf
  rw [jx_M5, jx_M3, jx_Mi]
theorem jx_if (σ : jw_H) (o : Nat) (k : Int) : jm_if (jx_M σ o) k = if k < σ o 2 then σ (o + 3) k else if k < σ o 2 + σ o 0 then 0 else σ (o + 5) (k - σ o 2 - σ o 0) := by
  unfold jm_if
  rw [jx_M5, jx_M3, jx_Mn, jx_Mb]
/-- 1: the sum is no more than the number; -1: no less -/
def jx_sn (μ : jw_H) (k : Int) : Int := if jm_kf μ k = 0 ∨ jm_kf μ k = 3 then 1 else -1
/-- a plane: its sum and its number -/
def jx_pr (μ : jw_H) (k : Int) : ge_R := (jm_pf μ k 0, jm_pf μ k 1, jm_pf μ k 2, jm_if μ k)
/-- a plane as a row that bounds -/
def jx_row (μ : jw_H) (k : Int) : ge_R := (jx_sn μ k * jm_pf μ k 0, jx_sn μ k * jm_pf μ k 1, jx_sn μ k * jm_pf μ k 2, jx_sn μ k * jm_if μ k)
theorem jx_sn_1 (μ : jw_H) (k : Int) : jx_sn μ k = 1 ∨ jx_sn μ k = -1 := by
  unfold jx_sn
  split
  · exact .inl rfl
  · exact .inr rfl
theorem jx_row_s (μ : jw_H) (k : Int) (v : ge_R) : ge_s (jx_row μ k) v = jx_sn μ k * ge_s (jx_pr μ k) v := by
  simp only [ge_s, jx_row, jx_pr]
  grind
theorem jx_row_z (μ : jw_H) (k : Int) (v : ge_R) : ge_s (jx_row μ k) v = 0 ↔ ge_s (jx_pr μ k) v = 0 := by
  rw [jx_row_s]
  rcases jx_sn_1 μ k with h | h <;> rw [h] <;> omega
theorem jx_planes {n : Nat} {σ : jw_H} {o : Nat} (hp : jx_po n o)  : jw_T (js_S n) 1 69 [.inr (.inr o)] σ (fun r σ' => r = some (.inl (σ o 2 + 2 * σ o 0)) ∧ σ' = σ) := by
  refine jw_T_of (D := 0) (M := mm_69) rfl (Nat.le_of_ble_eq_true rfl) (ls0 := [some (.inr (.inr o))]) rfl ?_ (by rintro _ _ ⟨rfl, -⟩; rfl)
  have ho := hp.1
  refine jw_W_n 1 (i' := 1) (ls' := [some (.inr (.inr o))]) (st' := [.inr (.inr o)]) rfl ?_
  refine jw_W_gf rfl hp.2.1 rfl ?_
  show jw_W (js_S n) _ md_69 2 [some (.inr (.inr o))] [.inl (σ o 2)] σ _
  refine jw_W_n 2 (i' := 4) (ls' := [some (.inr (.inr o))]) (st' := [.inr (.inr o), .inl 2, .inl (σ o 2)]) rfl ?_
  refine jw_W_gf rfl hp.2.1 rfl ?_
  show jw_W (js_S n) _ md_69 5 [some (.inr (.inr o))] [.inl (σ o 0), .inl 2, .inl (σ o 2)] σ _
  refine jw_W_n 2 (i' := 7) (ls' := [some (.inr (.inr o))]) (st' := [.inl (σ o 2 + (2 * (σ o 0)))]) rfl ?_
  refine jw_W_ir rfl ?_
  exact ⟨rfl, rfl⟩
theorem jx_kind {n : Nat} {σ : jw_H} {o : Nat} (hp : jx_po n o) {k : Int} (hP : jx_Pb σ o) (k0 : 0 ≤ k) (k1 : k < σ o 2 + 2 * σ o 0) : jw_T (js_S n) 1 71 [.inr (.inr o), .inl k] σ (fun r σ' => r = some (.inl (jm_kf (jx_M σ o) k)) ∧ σ' = σ) := by
  refine jw_T_of (D := 0) (M := mm_71) rfl (Nat.le_of_ble_eq_true rfl) (ls0 := [some (.inr (.inr o)), some (.inl k)]) rfl ?_ (by rintro _ _ ⟨rfl, -⟩; rfl)
  have ho := hp.1
  obtain ⟨⟨pq1, pq2⟩, ⟨pw1, pw2⟩, ⟨pk1, pk2⟩, hPk, hPb, hPw⟩ := hP
  refine jw_W_n 2 (i' := 2) (ls' := [some (.inr (.inr o)), some (.inl k)]) (st' := [.inr (.inr o), .inl k]) rfl ?_
  refine jw_W_gf rfl hp.2.1 rfl ?_
  show jw_W (js_S n) _ md_71 3 [some (.inr (.inr o)), some (.inl k)] [.inl (σ o 2), .inl k] σ _
  refine jw_W_ic rfl (by unfold jw_rg; omega) (by unfold jw_rg; omega) (fun hc1 => ?_) (fun hc1 => ?_)
  · have hc1 : k ≥ (σ o 2) := hc1
    refine jw_W_n 2 (i' := 11) (ls' := [some (.inr (.inr o)), some (.inl k)]) (st' := [.inr (.inr o), .inl k]) rfl ?_
    refine jw_W_gf rfl hp.2.1 rfl ?_
    show jw_W (js_S n) _ md_71 12 [some (.inr (.inr o)), some (.inl k)] [.inl (σ o 2), .inl k] σ _
    refine jw_W_n 1 (i' := 13) (ls' := [some (.inr (.inr o)), some (.inl k)]) (st' := [.inr (.inr o), .inl (σ o 2), .inl k]) rfl ?_
    refine jw_W_gf rfl hp.2.1 rfl ?_
    show jw_W (js_S n) _ md_71 14 [some (.inr (.inr o)), some (.inl k)] [.inl (σ o 0), .inl (σ o 2), .inl k] σ _
    refine jw_W_n 1 (i' := 15) (ls' := [some (.inr (.inr o)), some (.inl k)]) (st' := [.inl (σ o 2 + (σ o 0)), .inl k]) rfl ?_
    refine jw_W_ic rfl (by unfold jw_rg; omega) (by unfold jw_rg; omega) (fun hc2 => ?_) (fun hc2 => ?_)
    · have hc2 : k ≥ (σ o 2 + (σ o 0)) := hc2
      refine jw_W_n 1 (i' := 19) (ls' := [some (.inr (.inr o)), some (.inl k)]) (st' := [.inl 3]) rfl ?_
      refine jw_W_ir rfl ?_
      refine ⟨?_, rfl⟩
      rw [jx_kf]
      repeat' split
      all_goals first | rfl | omega
    · have hc2 : ¬ (k ≥ (σ o 2 + (σ o 0))) := hc2
      refine jw_W_n 2 (i' := 19) (ls' := [some (.inr (.inr o)), some (.inl k)]) (st' := [.inl 2]) rfl ?_
      refine jw_W_ir rfl ?_
      refine ⟨?_, rfl⟩
      rw [jx_kf]
      repeat' split
      all_goals first | rfl | omega
  · have hc1 : ¬ (k ≥ (σ o 2)) := hc1
    refine jw_W_n 1 (i' := 5) (ls' := [some (.inr (.inr o)), some (.inl k)]) (st' := [.inr (.inr o)]) rfl ?_
    refine jw_W_gf rfl hp.2.1 rfl ?_
    show jw_W (js_S n) _ md_71 6 [some (.inr (.inr o)), some (.inl k)] [.inr (.inr (o + 4))] σ _
    refine jw_W_n 1 (i' := 7) (ls' := [some (.inr (.inr o)), some (.inl k)]) (st' := [.inl k, .inr (.inr (o + 4))]) rfl ?_
    refine jw_W_ia rfl hp.2.2.2.2.2.1 (by omega) (by omega) (by omega) ?_
    show jw_W (js_S n) _ md_71 8 [some (.inr (.inr o)), some (.inl k)] [.inl (σ (o + 4) k)] σ _
    refine jw_W_ir rfl ?_
    refine ⟨?_, rfl⟩
    rw [jx_kf]
    repeat' split
    all_goals first | rfl | omega
theorem jx_takes {n : Nat} {σ : jw_H} {o : Nat} (hp : jx_po n o) {k j : Int} (hP : jx_Pb σ o) (k0 : 0 ≤ k) (k1 : k < σ o 2 + 2 * σ o 0) (j0 : 0 ≤ j) (j1 : j < 3) : jw_T (js_S n) 1 72 [.inr (.inr o), .inl k, .inl j] σ (fun r σ' => r = some (.inl (jm_pf (jx_M σ o) k j)) ∧ σ' = σ) := by
  refine jw_T_of (D := 0) (M := mm_72) rfl (Nat.le_of_ble_eq_true rfl) (ls0 := [some (.inr (.inr o)), some (.inl k), some (.inl j), none]) rfl ?_ (by rintro _ _ ⟨rfl, -⟩; rfl)
  have ho := hp.1
  obtain ⟨⟨pq1, pq2⟩, ⟨pw1, pw2⟩, ⟨pk1, pk2⟩, hPk, hPb, hPw⟩ := hP
  refine jw_W_n 2 (i' := 2) (ls' := [some (.inr (.inr o)), some (.inl k), some (.inl j), none]) (st' := [.inr (.inr o), .inl k]) rfl ?_
  refine jw_W_gf rfl hp.2.1 rfl ?_
  show jw_W (js_S n) _ md_72 3 [some (.inr (.inr o)), some (.inl k), some (.inl j), none] [.inl (σ o 2), .inl k] σ _
  refine jw_W_ic rfl (by unfold jw_rg; omega) (by unfold jw_rg; omega) (fun hc1 => ?_) (fun hc1 => ?_)
  · have hc1 : k ≥ (σ o 2) := hc1
    refine jw_W_n 2 (i' := 15) (ls' := [some (.inr (.inr o)), some (.inl k), some (.inl j), none]) (st' := [.inr (.inr o), .inl k]) rfl ?_
    refine jw_W_gf rfl hp.2.1 rfl ?_
    show jw_W (js_S n) _ md_72 16 [some (.inr (.inr o)), some (.inl k), some (.inl j), none] [.inl (σ o 2), .inl k] σ _
    refine jw_W_n 1 (i' := 17) (ls' := [some (.inr (.inr o)), some (.inl k), some (.inl j), none]) (st' := [.inr (.inr o), .inl (σ o 2), .inl k]) rfl ?_
    refine jw_W_gf rfl hp.2.1 rfl ?_
    show jw_W (js_S n) _ md_72 18 [some (.inr (.inr o)), some (.inl k), some (.inl j), none] [.inl (σ o 0), .inl (σ o 2), .inl k] σ _
    refine jw_W_n 1 (i' := 19) (ls' := [some (.inr (.inr o)), some (.inl k), some (.inl j), none]) (st' := [.inl (σ o 2 + (σ o 0)), .inl k]) rfl ?_
    refine jw_W_ic rfl (by unfold jw_rg; omega) (by unfold jw_rg; omega) (fun hc2 => ?_) (fun hc2 => ?_)
    · have hc2 : k ≥ (σ o 2 + (σ o 0)) := hc2
      refine jw_W_n 2 (i' := 27) (ls' := [some (.inr (.inr o)), some (.inl k), some (.inl j), none]) (st' := [.inr (.inr o), .inl k]) rfl ?_
      refine jw_W_gf rfl hp.2.1 rfl ?_
      show jw_W (js_S n) _ md_72 28 [some (.inr (.inr o)), some (.inl k), some (.inl j), none] [.inl (σ o 2), .inl k] σ _
      refine jw_W_n 2 (i' := 30) (ls' := [some (.inr (.inr o)), some (.inl k), some (.inl j), none]) (st' := [.inr (.inr o), .inl (k - (σ o 2))]) rfl ?_
      refine jw_W_gf rfl hp.2.1 rfl ?_
      show jw_W (js_S n) _ md_72 31 [some (.inr (.inr o)), some (.inl k), some (.inl j), none] [.inl (σ o 0), .inl (k - (σ o 2))] σ _
      refine jw_W_n 4 (i' := 35) (ls' := [some (.inr (.inr o)), some (.inl k), some (.inl j), some (.inl ((k - (σ o 2)) - (σ o 0)))]) (st' := [.inl j, .inl ((k - (σ o 2)) - (σ o 0))]) rfl ?_
      refine jw_W_ic rfl (by unfold jw_rg; omega) (by unfold jw_rg; omega) (fun hc3 => ?_) (fun hc3 => ?_)
      · have hc3 : ((k - (σ o 2)) - (σ o 0)) ≠ j := hc3
        refine jw_W_n 1 (i' := 39) (ls' := [some (.inr (.inr o)), some (.inl k), some (.inl j), some (.inl ((k - (σ o 2)) - (σ o 0)))]) (st' := [.inl 0]) rfl ?_
        refine jw_W_ir rfl ?_
        refine ⟨?_, rfl⟩
        rw [jx_pf k0 k1 j0 j1]
        repeat' split
        all_goals first | rfl | omega
      · have hc3 : ((k - (σ o 2)) - (σ o 0)) = j := Classical.not_not.mp hc3
        refine jw_W_n 2 (i' := 39) (ls' := [some (.inr (.inr o)), some (.inl k), some (.inl j), some (.inl ((k - (σ o 2)) - (σ o 0)))]) (st' := [.inl 1]) rfl ?_
        refine jw_W_ir rfl ?_
        refine ⟨?_, rfl⟩
        rw [jx_pf k0 k1 j0 j1]
        repeat' split
        all_goals first | rfl | omega
    · have hc2 : ¬ (k ≥ (σ o 2 + (σ o 0))) := hc2
      refine jw_W_n 2 (i' := 22) (ls' := [some (.inr (.inr o)), some (.inl k), some (.inl j), none]) (st' := [.inr (.inr o), .inl k]) rfl ?_
      refine jw_W_gf rfl hp.2.1 rfl ?_
      show jw_W (js_S n) _ md_72 23 [some (.inr (.inr o)), some (.inl k), some (.inl j), none] [.inl (σ o 2), .inl k] σ _
      refine jw_W_n 5 (i' := 35) (ls' := [some (.inr (.inr o)), some (.inl k), some (.inl j), some (.inl (k - (σ o 2)))]) (st' := [.inl j, .inl (k - (σ o 2))]) rfl ?_
      refine jw_W_ic rfl (by unfold jw_rg; omega) (by unfold jw_rg; omega) (fun hc4 => ?_) (fun hc4 => ?_)
      · have hc4 : (k - (σ o 2)) ≠ j := hc4
        refine jw_W_n 1 (i' := 39) (ls' := [some (.inr (.inr o)), some (.inl k), some (.inl j), some (.inl (k - (σ o 2)))]) (st' := [.inl 0]) rfl ?_
        refine jw_W_ir rfl ?_
        refine ⟨?_, rfl⟩
        rw [jx_pf k0 k1 j0 j1]
        repeat' split
        all_goals first | rfl | omega
      · have hc4 : (k - (σ o 2)) = j := Classical.not_not.mp hc4
        refine jw_W_n 2 (i' := 39) (ls' := [some (.inr (.inr o)), some (.inl k), some (.inl j), some (.inl (k - (σ o 2)))]) (st' := [.inl 1]) rfl ?_
        refine jw_W_ir rfl ?_
        refine ⟨?_, rfl⟩
        rw [jx_pf k0 k1 j0 j1]
        repeat' split
        all_goals first | rfl | omega
  · have hc1 : ¬ (k ≥ (σ o 2)) := hc1
    refine jw_W_n 1 (i' := 5) (ls' := [some (.inr (.inr o)), some (.inl k), some (.inl j), none]) (st' := [.inr (.inr o)]) rfl ?_
    refine jw_W_gf rfl hp.2.1 rfl ?_
    show jw_W (js_S n) _ md_72 6 [some (.inr (.inr o)), some (.inl k), some (.inl j), none] [.inr (.inr (o + 2))] σ _
    refine jw_W_n 5 (i' := 11) (ls' := [some (.inr (.inr o)), some (.inl k), some (.inl j), none]) (st' := [.inl ((3 * k) + j), .inr (.inr (o + 2))]) rfl ?_
    refine jw_W_ia rfl hp.2.2.2.1 (by omega) (by omega) (by omega) ?_
    show jw_W (js_S n) _ md_72 12 [some (.inr (.inr o)), some (.inl k), some (.inl j), none] [.inl (σ (o + 2) ((3 * k) + j))] σ _
    refine jw_W_ir rfl ?_
    refine ⟨?_, rfl⟩
    rw [jx_pf k0 k1 j0 j1]
    repeat' split
    all_goals first | rfl | omega
theorem jx_number {n : Nat} {σ : jw_H} {o : Nat} (hp : jx_po n o) {k : Int} (hP : jx_Pb σ o) (k0 : 0 ≤ k) (k1 : k < σ o 2 + 2 * σ o 0) : jw_T (js_S n) 1 73 [.inr (.inr o), .inl k] σ (fun r σ' => r = some (.inl (jm_if (jx_M σ o) k)) ∧ σ' = σ) := by
  refine jw_T_of (D := 0) (M := mm_73) rfl (Nat.le_of_ble_eq_true rfl) (ls0 := [some (.inr (.inr o)), some (.inl k)]) rfl ?_ (by rintro _ _ ⟨rfl, -⟩; rfl)
  have ho := hp.1
  obtain ⟨⟨pq1, pq2⟩, ⟨pw1, pw2⟩, ⟨pk1, pk2⟩, hPk, hPb, hPw⟩ := hP
  refine jw_W_n 2 (i' := 2) (ls' := [some (.inr (.inr o)), some (.inl k)]) (st' := [.inr (.inr o), .inl k]) rfl ?_
  refine jw_W_gf rfl hp.2.1 rfl ?_
  show jw_W (js_S n) _ md_73 3 [some (.inr (.inr o)), some (.inl k)] [.inl (σ o 2), .inl k] σ _
  refine jw_W_ic rfl (by unfold jw_rg; omega) (by unfold jw_rg; omega) (fun hc1 => ?_) (fun hc1 => ?_)
  · have hc1 : k ≥ (σ o 2) := hc1
    refine jw_W_n 2 (i' := 11) (ls' := [some (.inr (.inr o)), some (.inl k)]) (st' := [.inr (.inr o), .inl k]) rfl ?_
    refine jw_W_gf rfl hp.2.1 rfl ?_
    show jw_W (js_S n) _ md_73 12 [some (.inr (.inr o)), some (.inl k)] [.inl (σ o 2), .inl k] σ _
    refine jw_W_n 1 (i' := 13) (ls' := [some (.inr (.inr o)), some (.inl k)]) (st' := [.inr (.inr o), .inl (σ o 2), .inl k]) rfl ?_
    refine jw_W_gf rfl hp.2.1 rfl ?_
    show jw_W (js_S n) _ md_73 14 [some (.inr (.inr o)), some (.inl k)] [.inl (σ o 0), .inl (σ o 2), .inl k] σ _
    refine jw_W_n 1 (i' := 15) (ls' := [some (.inr (.inr o)), some (.inl k)]) (st' := [.inl (σ o 2 + (σ o 0)), .inl k]) rfl ?_
    refine jw_W_ic rfl (by unfold jw_rg; omega) (by unfold jw_rg; omega) (fun hc2 => ?_) (fun hc2 => ?_)
    · have hc2 : k ≥ (σ o 2 + (σ o 0)) := hc2
      refine jw_W_n 1 (i' := 19) (ls' := [some (.inr (.inr o)), some (.inl k)]) (st' := [.inr (.inr o)]) rfl ?_
      refine jw_W_gf rfl hp.2.1 rfl ?_
      show jw_W (js_S n) _ md_73 20 [some (.inr (.inr o)), some (.inl k)] [.inr (.inr (o + 5))] σ _
      refine jw_W_n 2 (i' := 22) (ls' := [some (.inr (.inr o)), some (.inl k)]) (st' := [.inr (.inr o), .inl k, .inr (.inr (o + 5))]) rfl ?_
      refine jw_W_gf rfl hp.2.1 rfl ?_
      show jw_W (js_S n) _ md_73 23 [some (.inr (.inr o)), some (.inl k)] [.inl (σ o 2), .inl k, .inr (.inr (o + 5))] σ _
      refine jw_W_n 2 (i' := 25) (ls' := [some (.inr (.inr o)), some (.inl k)]) (st' := [.inr (.inr o), .inl (k - (σ o 2)), .inr (.inr (o + 5))]) rfl ?_
      refine jw_W_gf rfl hp.2.1 rfl ?_
      show jw_W (js_S n) _ md_73 26 [some (.inr (.inr o)), some (.inl k)] [.inl (σ o 0), .inl (k - (σ o 2)), .inr (.inr (o + 5))] σ _
      refine jw_W_n 1 (i' := 27) (ls' := [some (.inr (.inr o)), some (.inl k)]) (st' := [.inl ((k - (σ o 2)) - (σ o 0)), .inr (.inr (o + 5))]) rfl ?_
      refine jw_W_ia rfl hp.2.2.2.2.2.2 (by omega) (by omega) (by omega) ?_
      show jw_W (js_S n) _ md_73 28 [some (.inr (.inr o)), some (.inl k)] [.inl (σ (o + 5) ((k - (σ o 2)) - (σ o 0)))] σ _
      refine jw_W_ir rfl ?_
      refine ⟨?_, rfl⟩
      rw [jx_if]
      repeat' split
      all_goals first | rfl | omega
    · have hc2 : ¬ (k ≥ (σ o 2 + (σ o 0))) := hc2
      refine jw_W_n 2 (i' := 28) (ls' := [some (.inr (.inr o)), some (.inl k)]) (st' := [.inl 0]) rfl ?_
      refine jw_W_ir rfl ?_
      refine ⟨?_, rfl⟩
      rw [jx_if]
      repeat' split
      all_goals first | rfl | omega
  · have hc1 : ¬ (k ≥ (σ o 2)) := hc1
    refine jw_W_n 1 (i' := 5) (ls' := [some (.inr (.inr o)), some (.inl k)]) (st' := [.inr (.inr o)]) rfl ?_
    refine jw_W_gf rfl hp.2.1 rfl ?_
    show jw_W (js_S n) _ md_73 6 [some (.inr (.inr o)), some (.inl k)] [.inr (.inr (o + 3))] σ _
    refine jw_W_n 1 (i' := 7) (ls' := [some (.inr (.inr o)), some (.inl k)]) (st' := [.inl k, .inr (.inr (o + 3))]) rfl ?_
    refine jw_W_ia rfl hp.2.2.2.2.1 (by omega) (by omega) (by omega) ?_
    show jw_W (js_S n) _ md_73 8 [some (.inr (.inr o)), some (.inl k)] [.inl (σ (o + 3) k)] σ _
    refine jw_W_ir rfl ?_
    refine ⟨?_, rfl⟩
    rw [jx_if]
    repeat' split
    all_goals first | rfl | omega
theorem jx_kf_bd {σ : jw_H} {o : Nat} {k : Int} (hP : jx_Pb σ o) (k0 : 0 ≤ k) : 0 ≤ jm_kf (jx_M σ o) k ∧ jm_kf (jx_M σ o) k ≤ 3 := by
  rw [jx_kf]
  split
  · rename_i h
    have := (hP.2.2.2.1 k k0 h).2.2
    omega
  · split <;> omega
theorem jx_sense {n : Nat} {σ : jw_H} {o : Nat} (hp : jx_po n o) {k : Int} (hP : jx_Pb σ o) (k0 : 0 ≤ k) (k1 : k < σ o 2 + 2 * σ o 0) : jw_T (js_S n) 2 74 [.inr (.inr o), .inl k] σ (fun r σ' => r = some (.inl (jx_sn (jx_M σ o) k)) ∧ σ' = σ) := by
  refine jw_T_of (D := 1) (M := mm_74) rfl (Nat.le_of_ble_eq_true rfl) (ls0 := [some (.inr (.inr o)), some (.inl k), none]) rfl ?_ (by rintro _ _ ⟨rfl, -⟩; rfl)
  have ho := hp.1
  have hkb := jx_kf_bd hP k0
  refine jw_W_n 2 (i' := 2) (ls' := [some (.inr (.inr o)), some (.inl k), none]) (st' := [.inl k, .inr (.inr o)]) rfl ?_
  refine jw_W_call (as := [.inr (.inr o), .inl k]) (rest := []) rfl rfl rfl rfl (Nat.le_of_ble_eq_true rfl) (.inr (jx_rc hp.2.1)) (jx_kind hp hP k0 k1) (by omega) ?_ rfl
  rintro r1 σ1 ⟨rfl, hs⟩
  rw [hs]
  show jw_W (js_S n) _ md_74 3 [some (.inr (.inr o)), some (.inl k), none] [.inl (jm_kf (jx_M σ o) k)] σ _
  refine jw_W_n 2 (i' := 5) (ls' := [some (.inr (.inr o)), some (.inl k), some (.inl (jm_kf (jx_M σ o) k))]) (st' := [.inl (jm_kf (jx_M σ o) k)]) rfl ?_
  refine jw_W_if rfl (by unfold jw_rg; omega) (fun hc1 => ?_) (fun hc1 => ?_)
  · have hc1 : (jm_kf (jx_M σ o) k) = 0 := hc1
    refine jw_W_n 2 (i' := 12) (ls' := [some (.inr (.inr o)), some (.inl k), some (.inl (jm_kf (jx_M σ o) k))]) (st' := [.inl 1]) rfl ?_
    refine jw_W_ir rfl ?_
    refine ⟨?_, rfl⟩
    unfold jx_sn
    first | rw [if_pos (by omega)] | rw [if_neg (by omega)]
  · have hc1 : ¬ ((jm_kf (jx_M σ o) k) = 0) := hc1
    refine jw_W_n 2 (i' := 8) (ls' := [some (.inr (.inr o)), some (.inl k), some (.inl (jm_kf (jx_M σ o) k))]) (st' := [.inl 3, .inl (jm_kf (jx_M σ o) k)]) rfl ?_
    refine jw_W_ic rfl (by unfold jw_rg; omega) (by unfold jw_rg; omega) (fun hc2 => ?_) (fun hc2 => ?_)
    · have hc2 : (jm_kf (jx_M σ o) k) ≠ 3 := hc2
      refine jw_W_n 1 (i' := 12) (ls' := [some (.inr (.inr o)), some (.inl k), some (.inl (jm_kf (jx_M σ o) k))]) (st' := [.inl ((-1))]) rfl ?_
      refine jw_W_ir rfl ?_
      refine ⟨?_, rfl⟩
      unfold jx_sn
      first | rw [if_pos (by omega)] | rw [if_neg (by omega)]
    · have hc2 : (jm_kf (jx_M σ o) k) = 3 := Classical.not_not.mp hc2
      refine jw_W_n 2 (i' := 12) (ls' := [some (.inr (.inr o)), some (.inl k), some (.inl (jm_kf (jx_M σ o) k))]) (st' := [.inl 1]) rfl ?_
      refine jw_W_ir rfl ?_
      refine ⟨?_, rfl⟩
      unfold jx_sn
      first | rw [if_pos (by omega)] | rw [if_neg (by omega)]
theorem jx_over {n : Nat} {σ : jw_H} {o : Nat} (hp : jx_po n o) {k x y z d : Int} (hP : jx_Pb σ o) (k0 : 0 ≤ k) (k1 : k < σ o 2 + 2 * σ o 0) : jw_T (js_S n) 2 75 [.inr (.inr o), .inl k, .inl x, .inl y, .inl z, .inl d] σ (fun r σ' => r = some (.inl (ge_s (jx_pr (jx_M σ o) k) (x, y, z, d))) ∧ σ' = σ) := by
  refine jw_T_of (D := 1) (M := mm_75) rfl (Nat.le_of_ble_eq_true rfl) (ls0 := [some (.inr (.inr o)), some (.inl k), some (.inl x), some (.inl y), some (.inl z), some (.inl d)]) rfl ?_ (by rintro _ _ ⟨rfl, -⟩; rfl)
  have ho := hp.1
  refine jw_W_n 3 (i' := 3) (ls' := [some (.inr (.inr o)), some (.inl k), some (.inl x), some (.inl y), some (.inl z), some (.inl d)]) (st' := [.inl 0, .inl k, .inr (.inr o)]) rfl ?_
  refine jw_W_call (as := [.inr (.inr o), .inl k, .inl 0]) (rest := []) rfl rfl rfl rfl (Nat.le_of_ble_eq_true rfl) (.inr (jx_rc hp.2.1)) (jx_takes hp hP k0 k1 (by omega) (by omega)) (by omega) ?_ rfl
  rintro r1 σ1 ⟨rfl, hs⟩
  rw [hs]
  show jw_W (js_S n) _ md_75 4 [some (.inr (.inr o)), some (.inl k), some (.inl x), some (.inl y), some (.inl z), some (.inl d)] [.inl (jm_pf (jx_M σ o) k 0)] σ _
  refine jw_W_n 5 (i' := 9) (ls' := [some (.inr (.inr o)), some (.inl k), some (.inl x), some (.inl y), some (.inl z), some (.inl d)]) (st' := [.inl 1, .inl k, .inr (.inr o), .inl ((jm_pf (jx_M σ o) k 0) * x)]) rfl ?_
  refine jw_W_call (as := [.inr (.inr o), .inl k, .inl 1]) (rest := [.inl ((jm_pf (jx_M σ o) k 0) * x)]) rfl rfl rfl rfl (Nat.le_of_ble_eq_true rfl) (.inr (jx_rc hp.2.1)) (jx_takes hp hP k0 k1 (by omega) (by omega)) (by omega) ?_ rfl
  rintro r1 σ1 ⟨rfl, hs⟩
  rw [hs]
  show jw_W (js_S n) _ md_75 10 [some (.inr (.inr o)), some (.inl k), some (.inl x), some (.inl y), some (.inl z), some (.inl d)] [.inl (jm_pf (jx_M σ o) k 1), .inl ((jm_pf (jx_M σ o) k 0) * x)] σ _
  refine jw_W_n 6 (i' := 16) (ls' := [some (.inr (.inr o)), some (.inl k), some (.inl x), some (.inl y), some (.inl z), some (.inl d)]) (st' := [.inl 2, .inl k, .inr (.inr o), .inl (((jm_pf (jx_M σ o) k 0) * x) + ((jm_pf (jx_M σ o) k 1) * y))]) rfl ?_
  refine jw_W_call (as := [.inr (.inr o), .inl k, .inl 2]) (rest := [.inl (((jm_pf (jx_M σ o) k 0) * x) + ((jm_pf (jx_M σ o) k 1) * y))]) rfl rfl rfl rfl (Nat.le_of_ble_eq_true rfl) (.inr (jx_rc hp.2.1)) (jx_takes hp hP k0 k1 (by omega) (by omega)) (by omega) ?_ rfl
  rintro r1 σ1 ⟨rfl, hs⟩
  rw [hs]
  show jw_W (js_S n) _ md_75 17 [some (.inr (.inr o)), some (.inl k), some (.inl x), some (.inl y), some (.inl z), some (.inl d)] [.inl (jm_pf (jx_M σ o) k 2), .inl (((jm_pf (jx_M σ o) k 0) * x) + ((jm_pf (jx_M σ o) k 1) * y))] σ _
  refine jw_W_n 5 (i' := 22) (ls' := [some (.inr (.inr o)), some (.inl k), some (.inl x), some (.inl y), some (.inl z), some (.inl d)]) (st' := [.inl k, .inr (.inr o), .inl ((((jm_pf (jx_M σ o) k 0) * x) + ((jm_pf (jx_M σ o) k 1) * y)) + ((jm_pf (jx_M σ o) k 2) * z))]) rfl ?_
  refine jw_W_call (as := [.inr (.inr o), .inl k]) (rest := [.inl ((((jm_pf (jx_M σ o) k 0) * x) + ((jm_pf (jx_M σ o) k 1) * y)) + ((jm_pf (jx_M σ o) k 2) * z))]) rfl rfl rfl rfl (Nat.le_of_ble_eq_true rfl) (.inr (jx_rc hp.2.1)) (jx_number hp hP k0 k1) (by omega) ?_ rfl
  rintro r1 σ1 ⟨rfl, hs⟩
  rw [hs]
  show jw_W (js_S n) _ md_75 23 [some (.inr (.inr o)), some (.inl k), some (.inl x), some (.inl y), some (.inl z), some (.inl d)] [.inl (jm_if (jx_M σ o) k), .inl ((((jm_pf (jx_M σ o) k 0) * x) + ((jm_pf (jx_M σ o) k 1) * y)) + ((jm_pf (jx_M σ o) k 2) * z))] σ _
  refine jw_W_n 3 (i' := 26) (ls' := [some (.inr (.inr o)), some (.inl k), some (.inl x), some (.inl y), some (.inl z), some (.inl d)]) (st' := [.inl (((((jm_pf (jx_M σ o) k 0) * x) + ((jm_pf (jx_M σ o) k 1) * y)) + ((jm_pf (jx_M σ o) k 2) * z)) - ((jm_if (jx_M σ o) k) * d))]) rfl ?_
  refine jw_W_ir rfl ?_
  exact ⟨rfl, rfl⟩
theorem jx_sn_rg {μ : jw_H} {k a : Int} (h : -1000000 ≤ a ∧ a ≤ 1000000) : -1000000 ≤ jx_sn μ k * a ∧ jx_sn μ k * a ≤ 1000000 := by
  rcases jx_sn_1 μ k with e | e <;> rw [e] <;> omega
theorem jx_holds {n : Nat} {σ : jw_H} {o : Nat} (hp : jx_po n o) {k x y z d : Int} (hP : jx_Pb σ o) (k0 : 0 ≤ k) (k1 : k < σ o 2 + 2 * σ o 0) (hb : -1000000 ≤ ge_s (jx_pr (jx_M σ o) k) (x, y, z, d) ∧ ge_s (jx_pr (jx_M σ o) k) (x, y, z, d) ≤ 1000000) : jw_T (js_S n) 3 76 [.inr (.inr o), .inl k, .inl x, .inl y, .inl z, .inl d] σ (fun r σ' => (r = some (.inl 1) ∧ σ' = σ ∧ (ge_s (jx_row (jx_M σ o) k) (x, y, z, d) ≤ 0)) ∨ (r = some (.inl 0) ∧ σ' = σ ∧ ¬ (ge_s (jx_row (jx_M σ o) k) (x, y, z, d) ≤ 0))) := by
  refine jw_T_of (D := 2) (M := mm_76) rfl (Nat.le_of_ble_eq_true rfl) (ls0 := [some (.inr (.inr o)), some (.inl k), some (.inl x), some (.inl y), some (.inl z), some (.inl d)]) rfl ?_ (by rintro _ _ (⟨rfl, -⟩ | ⟨rfl, -⟩) <;> rfl)
  have ho := hp.1
  have hsn := jx_sn_rg (μ := jx_M σ o) (k := k) hb
  refine jw_W_n 2 (i' := 2) (ls' := [some (.inr (.inr o)), some (.inl k), some (.inl x), some (.inl y), some (.inl z), some (.inl d)]) (st' := [.inl k, .inr (.inr o)]) rfl ?_
  refine jw_W_call (as := [.inr (.inr o), .inl k]) (rest := []) rfl rfl rfl rfl (Nat.le_of_ble_eq_true rfl) (.inr (jx_rc hp.2.1)) (jx_sense hp hP k0 k1) (by omega) ?_ rfl
  rintro r1 σ1 ⟨rfl, hs⟩
  rw [hs]
  show jw_W (js_S n) _ md_76 3 [some (.inr (.inr o)), some (.inl k), some (.inl x), some (.inl y), some (.inl z), some (.inl d)] [.inl (jx_sn (jx_M σ o) k)] σ _
  refine jw_W_n 6 (i' := 9) (ls' := [some (.inr (.inr o)), some (.inl k), some (.inl x), some (.inl y), some (.inl z), some (.inl d)]) (st' := [.inl d, .inl z, .inl y, .inl x, .inl k, .inr (.inr o), .inl (jx_sn (jx_M σ o) k)]) rfl ?_
  refine jw_W_call (as := [.inr (.inr o), .inl k, .inl x, .inl y, .inl z, .inl d]) (rest := [.inl (jx_sn (jx_M σ o) k)]) rfl rfl rfl rfl (Nat.le_of_ble_eq_true rfl) (.inr (jx_rc hp.2.1)) (jx_over hp hP k0 k1) (by omega) ?_ rfl
  rintro r1 σ1 ⟨rfl, hs⟩
  rw [hs]
  show jw_W (js_S n) _ md_76 10 [some (.inr (.inr o)), some (.inl k), some (.inl x), some (.inl y), some (.inl z), some (.inl d)] [.inl (ge_s (jx_pr (jx_M σ o) k) (x, y, z, d)), .inl (jx_sn (jx_M σ o) k)] σ _
  refine jw_W_n 1 (i' := 11) (ls' := [some (.inr (.inr o)), some (.inl k), some (.inl x), some (.inl y), some (.inl z), some (.inl d)]) (st' := [.inl ((jx_sn (jx_M σ o) k) * (ge_s (jx_pr (jx_M σ o) k) (x, y, z, d)))]) rfl ?_
  refine jw_W_if rfl (by unfold jw_rg; omega) (fun hc1 => ?_) (fun hc1 => ?_)
  · have hc1 : ((jx_sn (jx_M σ o) k) * (ge_s (jx_pr (jx_M σ o) k) (x, y, z, d))) > 0 := hc1
    refine jw_W_n 1 (i' := 15) (ls' := [some (.inr (.inr o)), some (.inl k), some (.inl x), some (.inl y), some (.inl z), some (.inl d)]) (st' := [.inl 0]) rfl ?_
    refine jw_W_ir rfl ?_
    exact .inr ⟨rfl, rfl, by rw [jx_row_s]; omega⟩
  · have hc1 : ¬ (((jx_sn (jx_M σ o) k) * (ge_s (jx_pr (jx_M σ o) k) (x, y, z, d))) > 0) := hc1
    refine jw_W_n 2 (i' := 15) (ls' := [some (.inr (.inr o)), some (.inl k), some (.inl x), some (.inl y), some (.inl z), some (.inl d)]) (st' := [.inl 1]) rfl ?_
    refine jw_W_ir rfl ?_
    exact .inl ⟨rfl, rfl, by rw [jx_row_s]; omega⟩
theorem jx_allows_loop {n : Nat} {σ : jw_H} {o : Nat} {x y z d : Int} (hp : jx_po n o) (hP : jx_Pb σ o) (hb : ∀ k, 0 ≤ k → k < σ o 2 + 2 * σ o 0 → -1000000 ≤ ge_s (jx_pr (jx_M σ o) k) (x, y, z, d) ∧ ge_s (jx_pr (jx_M σ o) k) (x, y, z, d) ≤ 1000000) : ∀ (f : Nat) {k : Int}, 0 ≤ k → k + f = σ o 2 + 2 * σ o 0 → (∀ j, 0 ≤ j → j < k → ge_s (jx_row (jx_M σ o) j) (x, y, z, d) ≤ 0) → jw_W (js_S n) 3 md_77 2 [some (.inr (.inr o)), some (.inl x), some (.inl y), some (.inl z), some (.inl d), some (.inl k)] [] σ (fun r σ' => (r = some (.inl 1) ∧ σ' = σ ∧ (∀ k, 0 ≤ k → k < σ o 2 + 2 * σ o 0 → ge_s (jx_row (jx_M σ o) k) (x, y, z, d) ≤ 0)) ∨ (r = some (.inl 0) ∧ σ' = σ ∧ ¬ (∀ k, 0 ≤ k → k < σ o 2 + 2 * σ o 0 → ge_s (jx_row (jx_M σ o) k) (x, y, z, d) ≤ 0)))
  | f, k, k0, hk, H => by
    have ih : k < σ o 2 + 2 * σ o 0 → (∀ j, 0 ≤ j → j < k + 1 → ge_s (jx_row (jx_M σ o) j) (x, y, z, d) ≤ 0) → jw_W (js_S n) 3 md_77 2 [some (.inr (.inr o)), some (.inl x), some (.inl y), some (.inl z), some (.inl d), some (.inl (k + 1))] [] σ (fun r σ' => (r = some (.inl 1) ∧ σ' = σ ∧ (∀ k, 0 ≤ k → k < σ o 2 + 2 * σ o 0 → ge_s (jx_row (jx_M σ o) k) (x, y, z, d) ≤ 0)) ∨ (r = some (.inl 0) ∧ σ' = σ ∧ ¬ (∀ k, 0 ≤ k → k < σ o 2 + 2 * σ o 0 → ge_s (jx_row (jx_M σ o) k) (x, y, z, d) ≤ 0))) := by
      intro h1 h2
      match f, hk with
      | 0, hk => omega
      | f + 1, hk => exact jx_allows_loop hp hP hb f (by omega) (by omega) h2
    have ho := hp.1
    have hq := hP.1
    have hq2 := hP.2.2.1
    refine jw_W_n 2 (i' := 4) (ls' := [some (.inr (.inr o)), some (.inl x), some (.inl y), some (.inl z), some (.inl d), some (.inl k)]) (st' := [.inr (.inr o), .inl k]) rfl ?_
    refine jw_W_call (as := [.inr (.inr o)]) (rest := [.inl k]) rfl rfl rfl rfl (Nat.le_of_ble_eq_true rfl) (.inr (jx_rc hp.2.1)) (jx_planes hp) (by omega) ?_ rfl
    rintro r1 σ1 ⟨rfl, hs⟩
    rw [hs]
    show jw_W (js_S n) _ md_77 5 [some (.inr (.inr o)), some (.inl x), some (.inl y), some (.inl z), some (.inl d), some (.inl k)] [.inl (σ o 2 + 2 * σ o 0), .inl k] σ _
    refine jw_W_ic rfl (by unfold jw_rg; omega) (by unfold jw_rg; omega) (fun hc1 => ?_) (fun hc1 => ?_)
    · have hc1 : k ≥ (σ o 2 + 2 * σ o 0) := hc1
      refine jw_W_n 1 (i' := 19) (ls' := [some (.inr (.inr o)), some (.inl x), some (.inl y), some (.inl z), some (.inl d), some (.inl k)]) (st' := [.inl 1]) rfl ?_
      refine jw_W_ir rfl ?_
      exact .inl ⟨rfl, rfl, fun j j0 j1 => H j j0 (by omega)⟩
    · have hc1 : ¬ (k ≥ (σ o 2 + 2 * σ o 0)) := hc1
      refine jw_W_n 6 (i' := 12) (ls' := [some (.inr (.inr o)), some (.inl x), some (.inl y), some (.inl z), some (.inl d), some (.inl k)]) (st' := [.inl d, .inl z, .inl y, .inl x, .inl k, .inr (.inr o)]) rfl ?_
      refine jw_W_call (as := [.inr (.inr o), .inl k, .inl x, .inl y, .inl z, .inl d]) (rest := []) rfl rfl rfl rfl (Nat.le_of_ble_eq_true rfl) (.inr (jx_rc hp.2.1)) (jx_holds hp hP k0 (by omega) (hb k k0 (by omega))) (by omega) ?_ rfl
      rintro r1 σ1 (⟨rfl, hs, hno⟩ | ⟨rfl, hs, hno⟩)
      · rw [hs]
        show jw_W (js_S n) _ md_77 13 [some (.inr (.inr o)), some (.inl x), some (.inl y), some (.inl z), some (.inl d), some (.inl k)] [.inl 1] σ _
        refine jw_W_if rfl (by unfold jw_rg; omega) (fun hc2 => ?_) (fun hc2 => ?_)
        · clear hc2
          refine jw_W_n 2 (i' := 2) (ls' := [some (.inr (.inr o)), some (.inl x), some (.inl y), some (.inl z), some (.inl d), some (.inl (k + 1))]) (st' := []) rfl ?_
          exact ih (by omega) (fun j j0 j1 => by by_cases e : j = k
                                                 · rw [e]; exact hno
                                                 · exact H j j0 (by omega))
        · exact absurd hc2 (show ¬ ¬ ((1 : Int) ≠ 0) by omega)
      · rw [hs]
        show jw_W (js_S n) _ md_77 13 [some (.inr (.inr o)), some (.inl x), some (.inl y), some (.inl z), some (.inl d), some (.inl k)] [.inl 0] σ _
        refine jw_W_if rfl (by unfold jw_rg; omega) (fun hc3 => ?_) (fun hc3 => ?_)
        · exact absurd hc3 (show ¬ ((0 : Int) ≠ 0) by omega)
        · clear hc3
          refine jw_W_n 1 (i' := 15) (ls' := [some (.inr (.inr o)), some (.inl x), some (.inl y), some (.inl z), some (.inl d), some (.inl k)]) (st' := [.inl 0]) rfl ?_
          refine jw_W_ir rfl ?_
          exact .inr ⟨rfl, rfl, fun hh => hno (hh k k0 (by omega))⟩
theorem jx_allows {n : Nat} {σ : jw_H} {o : Nat} (hp : jx_po n o) {x y z d : Int} (hP : jx_Pb σ o) (hb : ∀ k, 0 ≤ k → k < σ o 2 + 2 * σ o 0 → -1000000 ≤ ge_s (jx_pr (jx_M σ o) k) (x, y, z, d) ∧ ge_s (jx_pr (jx_M σ o) k) (x, y, z, d) ≤ 1000000) : jw_T (js_S n) 4 77 [.inr (.inr o), .inl x, .inl y, .inl z, .inl d] σ (fun r σ' => (r = some (.inl 1) ∧ σ' = σ ∧ (∀ k, 0 ≤ k → k < σ o 2 + 2 * σ o 0 → ge_s (jx_row (jx_M σ o) k) (x, y, z, d) ≤ 0)) ∨ (r = some (.inl 0) ∧ σ' = σ ∧ ¬ (∀ k, 0 ≤ k → k < σ o 2 + 2 * σ o 0 → ge_s (jx_row (jx_M σ o) k) (x, y, z, d) ≤ 0))) := by
  refine jw_T_of (D := 3) (M := mm_77) rfl (Nat.le_of_ble_eq_true rfl) (ls0 := [some (.inr (.inr o)), some (.inl x), some (.inl y), some (.inl z), some (.inl d), none]) rfl ?_ (by rintro _ _ (⟨rfl, -⟩ | ⟨rfl, -⟩) <;> rfl)
  have ho := hp.1
  refine jw_W_n 2 (i' := 2) (ls' := [some (.inr (.inr o)), some (.inl x), some (.inl y), some (.inl z), some (.inl d), some (.inl 0)]) (st' := []) rfl ?_
  exact jx_allows_loop hp hP hb (σ o 2 + 2 * σ o 0).toNat (k := 0) (by omega) (by have := hP.1; have := hP.2.2.1; omega) (fun j j0 j1 => by omega)
/-- so far: bits of planes that are tight -/
def jx_tt (μ : jw_H) (v : ge_R) (m t : Int) : Prop := (0 ≤ t ∧ t ≤ 1048575) ∧ ∀ b : Nat, jb_in t b ↔ (b : Int) < m ∧ ge_s (jx_pr μ (b : Int)) v = 0
theorem jx_tt_0 (μ : jw_H) (v : ge_R) : jx_tt μ v 0 0 := ⟨by omega, fun b => by simp [jb_in]; omega⟩
theorem jx_tt_no {μ : jw_H} {v : ge_R} {m t : Int} (h : jx_tt μ v m t) (hn : ¬ ge_s (jx_pr μ m) v = 0) : jx_tt μ v (m + 1) t := by
  refine ⟨h.1, fun b => (h.2 b).trans ⟨fun hh => ⟨by omega, hh.2⟩, fun hh => ?_⟩⟩
  by_cases e : (b : Int) = m
  · rw [e] at hh
    exact absurd hh.2 hn
  · exact ⟨by omega, hh.2⟩
theorem jx_tt_yes {μ : jw_H} {v : ge_R} {m t : Int} (h : jx_tt μ v m t) (m0 : 0 ≤ m) (m1 : m < 20) (hy : ge_s (jx_pr μ m) v = 0) : jx_tt μ v (m + 1) (jw_or t (jw_shl 1 m)) := by
  obtain ⟨h1, h2⟩ := jm_one_in m0 m1
  obtain ⟨o1, o2⟩ : 0 ≤ jw_or t (jw_shl 1 m) ∧ jw_or t (jw_shl 1 m) ≤ 1048575 := by
    rw [jb_or h.1.1 (by have := h.1; omega) h1.1 (by omega)]
    have : t.toNat ||| (jw_shl 1 m).toNat < 2 ^ 20 := Nat.or_lt_two_pow (by have := h.1; omega) (by omega)
    omega
  refine ⟨⟨o1, o2⟩, fun b => ?_⟩
  rw [jm_or_in h.1 h1 b, h.2 b, h2 b]
  constructor
  · rintro (hh | hh)
    · exact ⟨by omega, hh.2⟩
    · rw [hh]
      exact ⟨by omega, hy⟩
  · intro hh
    by_cases e : (b : Int) = m
    · exact .inr e
    · exact .inl ⟨by omega, hh.2⟩
theorem jx_tightAt_loop {n : Nat} {σ : jw_H} {o : Nat} {x y z d : Int} (hp : jx_po n o) (hP : jx_Pb σ o) (hb : ∀ k, 0 ≤ k → k < σ o 2 + 2 * σ o 0 → -1000000 ≤ ge_s (jx_pr (jx_M σ o) k) (x, y, z, d) ∧ ge_s (jx_pr (jx_M σ o) k) (x, y, z, d) ≤ 1000000) : ∀ (f : Nat) {k t : Int}, 0 ≤ k → k + f = σ o 2 + 2 * σ o 0 → jx_tt (jx_M σ o) (x, y, z, d) k t → jw_W (js_S n) 2 md_78 4 [some (.inr (.inr o)), some (.inl x), some (.inl y), some (.inl z), some (.inl d), some (.inl t), some (.inl k)] [] σ (fun r σ' => ∃ t, r = some (.inl t) ∧ σ' = σ ∧ jx_tt (jx_M σ o) (x, y, z, d) (σ o 2 + 2 * σ o 0) t)
  | f, k, t, k0, hk, H => by
    have ih : ∀ {t' : Int}, k < σ o 2 + 2 * σ o 0 → jx_tt (jx_M σ o) (x, y, z, d) (k + 1) t' → jw_W (js_S n) 2 md_78 4 [some (.inr (.inr o)), some (.inl x), some (.inl y), some (.inl z), some (.inl d), some (.inl t'), some (.inl (k + 1))] [] σ (fun r σ' => ∃ t, r = some (.inl t) ∧ σ' = σ ∧ jx_tt (jx_M σ o) (x, y, z, d) (σ o 2 + 2 * σ o 0) t) := by
      intro t' h1 h2
      match f, hk with
      | 0, hk => omega
      | f + 1, hk => exact jx_tightAt_loop hp hP hb f (by omega) (by omega) h2
    have ho := hp.1
    have hq := hP.1
    have hq2 := hP.2.2.1
    refine jw_W_n 2 (i' := 6) (ls' := [some (.inr (.inr o)), some (.inl x), some (.inl y), some (.inl z), some (.inl d), some (.inl t), some (.inl k)]) (st' := [.inr (.inr o), .inl k]) rfl ?_
    refine jw_W_call (as := [.inr (.inr o)]) (rest := [.inl k]) rfl rfl rfl rfl (Nat.le_of_ble_eq_true rfl) (.inr (jx_rc hp.2.1)) (jx_planes hp) (by omega) ?_ rfl
    rintro r1 σ1 ⟨rfl, hs⟩
    rw [hs]
    show jw_W (js_S n) _ md_78 7 [some (.inr (.inr o)), some (.inl x), some (.inl y), some (.inl z), some (.inl d), some (.inl t), some (.inl k)] [.inl (σ o 2 + 2 * σ o 0), .inl k] σ _
    refine jw_W_ic rfl (by unfold jw_rg; omega) (by unfold jw_rg; omega) (fun hc1 => ?_) (fun hc1 => ?_)
    · have hc1 : k ≥ (σ o 2 + 2 * σ o 0) := hc1
      refine jw_W_n 1 (i' := 25) (ls' := [some (.inr (.inr o)), some (.inl x), some (.inl y), some (.inl z), some (.inl d), some (.inl t), some (.inl k)]) (st' := [.inl t]) rfl ?_
      refine jw_W_ir rfl ?_
      have hkl : k = σ o 2 + 2 * σ o 0 := by omega
      subst hkl
      exact ⟨t, rfl, rfl, H⟩
    · have hc1 : ¬ (k ≥ (σ o 2 + 2 * σ o 0)) := hc1
      refine jw_W_n 6 (i' := 14) (ls' := [some (.inr (.inr o)), some (.inl x), some (.inl y), some (.inl z), some (.inl d), some (.inl t), some (.inl k)]) (st' := [.inl d, .inl z, .inl y, .inl x, .inl k, .inr (.inr o)]) rfl ?_
      refine jw_W_call (as := [.inr (.inr o), .inl k, .inl x, .inl y, .inl z, .inl d]) (rest := []) rfl rfl rfl rfl (Nat.le_of_ble_eq_true rfl) (.inr (jx_rc hp.2.1)) (jx_over hp hP k0 (by omega)) (by omega) ?_ rfl
      rintro r1 σ1 ⟨rfl, hs⟩
      rw [hs]
      have hbk := hb k k0 (by omega)
      show jw_W (js_S n) _ md_78 15 [some (.inr (.inr o)), some (.inl x), some (.inl y), some (.inl z), some (.inl d), some (.inl t), some (.inl k)] [.inl (ge_s (jx_pr (jx_M σ o) k) (x, y, z, d))] σ _
      refine jw_W_if rfl (by unfold jw_rg; omega) (fun hc2 => ?_) (fun hc2 => ?_)
      · have hc2 : (ge_s (jx_pr (jx_M σ o) k) (x, y, z, d)) ≠ 0 := hc2
        refine jw_W_n 2 (i' := 4) (ls' := [some (.inr (.inr o)), some (.inl x), some (.inl y), some (.inl z), some (.inl d), some (.inl t), some (.inl (k + 1))]) (st' := []) rfl ?_
        exact ih (by omega) (jx_tt_no H (by assumption))
      · have hc2 : (ge_s (jx_pr (jx_M σ o) k) (x, y, z, d)) = 0 := Classical.not_not.mp hc2
        refine jw_W_n 8 (i' := 4) (ls' := [some (.inr (.inr o)), some (.inl x), some (.inl y), some (.inl z), some (.inl d), some (.inl (jw_or t (jw_shl 1 k))), some (.inl (k + 1))]) (st' := []) rfl ?_
        exact ih (by omega) (jx_tt_yes H k0 (by omega) (by assumption))
theorem jx_tightAt {n : Nat} {σ : jw_H} {o : Nat} (hp : jx_po n o) {x y z d : Int} (hP : jx_Pb σ o) (hb : ∀ k, 0 ≤ k → k < σ o 2 + 2 * σ o 0 → -1000000 ≤ ge_s (jx_pr (jx_M σ o) k) (x, y, z, d) ∧ ge_s (jx_pr (jx_M σ o) k) (x, y, z, d) ≤ 1000000) : jw_T (js_S n) 3 78 [.inr (.inr o), .inl x, .inl y, .inl z, .inl d] σ (fun r σ' => ∃ t, r = some (.inl t) ∧ σ' = σ ∧ jx_tt (jx_M σ o) (x, y, z, d) (σ o 2 + 2 * σ o 0) t) := by
  refine jw_T_of (D := 2) (M := mm_78) rfl (Nat.le_of_ble_eq_true rfl) (ls0 := [some (.inr (.inr o)), some (.inl x), some (.inl y), some (.inl z), some (.inl d), none, none]) rfl ?_ (by rintro _ _ ⟨_, rfl, -⟩; rfl)
  have ho := hp.1
  refine jw_W_n 4 (i' := 4) (ls' := [some (.inr (.inr o)), some (.inl x), some (.inl y), some (.inl z), some (.inl d), some (.inl 0), some (.inl 0)]) (st' := []) rfl ?_
  exact jx_tightAt_loop hp hP hb (σ o 2 + 2 * σ o 0).toNat (k := 0) (t := 0) (by omega) (by have := hP.1; have := hP.2.2.1; omega) (jx_tt_0 _ _)
theorem jx_shl1 : ∀ w : Int, 0 ≤ w → w ≤ 3 → jw_shl 1 w = if w = 0 then 1 else if w = 1 then 2 else if w = 2 then 4 else 8 := by
  intro w w0 w1
  rcases (show w = 0 ∨ w = 1 ∨ w = 2 ∨ w = 3 by omega) with rfl | rfl | rfl | rfl <;> rfl
theorem jx_everyWish {n : Nat} {σ : jw_H} {o : Nat} (hp : jx_po n o)  : jw_T (js_S n) 1 70 [.inr (.inr o)] σ (fun r σ' => r = some (.inl (jw_shl 1 (σ o 1) - 1)) ∧ σ' = σ) := by
  refine jw_T_of (D := 0) (M := mm_70) rfl (Nat.le_of_ble_eq_true rfl) (ls0 := [some (.inr (.inr o))]) rfl ?_ (by rintro _ _ ⟨rfl, -⟩; rfl)
  have ho := hp.1
  refine jw_W_n 2 (i' := 2) (ls' := [some (.inr (.inr o))]) (st' := [.inr (.inr o), .inl 1]) rfl ?_
  refine jw_W_gf rfl hp.2.1 rfl ?_
  show jw_W (js_S n) _ md_70 3 [some (.inr (.inr o))] [.inl (σ o 1), .inl 1] σ _
  refine jw_W_n 3 (i' := 6) (ls' := [some (.inr (.inr o))]) (st' := [.inl ((jw_shl 1 (σ o 1)) - 1)]) rfl ?_
  refine jw_W_ir rfl ?_
  exact ⟨rfl, rfl⟩

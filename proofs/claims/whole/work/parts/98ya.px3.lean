/-! ===== the class: its points ===== -/
/-- p is an object that holds points -/
def jx_pp (n p : Nat) : Prop := (p = 48 ∨ p = 58) ∧ (js_S n)[p]? = some (.inl (3, [0, p + 4, p + 5, p + 6, p + 7])) ∧ (js_S n)[p + 1]? = some (.inr (0, 64)) ∧ (js_S n)[p + 2]? = some (.inr (0, 64)) ∧ (js_S n)[p + 3]? = some (.inr (0, 64)) ∧ (js_S n)[p + 4]? = some (.inr (0, 64))
theorem jx_pp_48 (n : Nat) : jx_pp n 48 := ⟨by omega, rfl, rfl, rfl, rfl, rfl⟩
theorem jx_pp_58 (n : Nat) : jx_pp n 58 := ⟨by omega, rfl, rfl, rfl, rfl, rfl⟩
def jx_pt (σ : jw_H) (p : Nat) (i : Int) : ge_R := (σ (p + 1) i, σ (p + 2) i, σ (p + 3) i, σ (p + 4) i)
/-- a point no greater than this -/
def jx_bd (v : ge_R) : Prop := (-1458 ≤ v.1 ∧ v.1 ≤ 1458) ∧ (-1458 ≤ v.2.1 ∧ v.2.1 ≤ 1458) ∧ (-1458 ≤ v.2.2.1 ∧ v.2.2.1 ≤ 1458) ∧ (0 < v.2.2.2 ∧ v.2.2.2 ≤ 162)
/-- the points in the store are no greater -/
def jx_pb (σ : jw_H) (p : Nat) : Prop := (0 ≤ σ p 0 ∧ σ p 0 ≤ 64) ∧ ∀ i, 0 ≤ i → i < σ p 0 → jx_bd (jx_pt σ p i)
def jx_G (σ : jw_H) (a : Nat) (f : Int) : ge_D := (σ a f, σ a (f + 1), σ a (f + 2))
/-- a sum that is not too great -/
def jx_Gb (d : ge_D) : Prop := (-100 ≤ d.1 ∧ d.1 ≤ 100) ∧ (-100 ≤ d.2.1 ∧ d.2.1 ≤ 100) ∧ (-100 ≤ d.2.2 ∧ d.2.2 ≤ 100)
theorem jx_mb {a x : Int} (ha : -100 ≤ a ∧ a ≤ 100) (hx : -1458 ≤ x ∧ x ≤ 1458) : -145800 ≤ a * x ∧ a * x ≤ 145800 := by
  have h1 := Int.mul_nonneg (show 0 ≤ 100 - a by omega) (show 0 ≤ 1458 - x by omega)
  have h2 := Int.mul_nonneg (show 0 ≤ 100 - a by omega) (show 0 ≤ 1458 + x by omega)
  have h3 := Int.mul_nonneg (show 0 ≤ 100 + a by omega) (show 0 ≤ 1458 - x by omega)
  have h4 := Int.mul_nonneg (show 0 ≤ 100 + a by omega) (show 0 ≤ 1458 + x by omega)
  have e1 : (100 - a) * (1458 - x) = 145800 - 100 * x - 1458 * a + a * x := by grind
  have e2 : (100 - a) * (1458 + x) = 145800 + 100 * x - 1458 * a - a * x := by grind
  have e3 : (100 + a) * (1458 - x) = 145800 - 100 * x + 1458 * a - a * x := by grind
  have e4 : (100 + a) * (1458 + x) = 145800 + 100 * x + 1458 * a + a * x := by grind
  omega
theorem jx_f_bd {d : ge_D} {v : ge_R} (hd : jx_Gb d) (hv : jx_bd v) : -437400 ≤ ge_f d v ∧ ge_f d v ≤ 437400 := by
  have h1 := jx_mb hd.1 hv.1
  have h2 := jx_mb hd.2.1 hv.2.1
  have h3 := jx_mb hd.2.2 hv.2.2.1
  unfold ge_f
  omega
theorem jx_fw_bd {d : ge_D} {v u : ge_R} (hd : jx_Gb d) (hv : jx_bd v) (hu : jx_bd u) : -70858800 ≤ ge_f d v * u.2.2.2 ∧ ge_f d v * u.2.2.2 ≤ 70858800 := by
  have h := jx_f_bd hd hv
  have h2 := jm_ab2 (S := 437400) (X := 162) h.1 h.2 (by omega) (by have := hu.2.2.2; omega) hu.2.2.2.2
  omega
theorem jx_at {n : Nat} {σ : jw_H} {p : Nat} (hp : jx_pp n p) {i q : Int} (i0 : 0 ≤ i) (i1 : i < 64) (hq : jw_rg q) : jw_T (js_S n) 1 62 [.inr (.inr p), .inl i, .inl q] σ (fun r σ' => r = some (.inl (jm_co (jx_pt σ p i) q)) ∧ σ' = σ) := by
  refine jw_T_of (D := 0) (M := mm_62) rfl (Nat.le_of_ble_eq_true rfl) (ls0 := [some (.inr (.inr p)), some (.inl i), some (.inl q)]) rfl ?_ (by rintro _ _ ⟨rfl, -⟩; rfl)
  have ho := hp.1
  have rhq := hq
  unfold jw_rg at rhq
  refine jw_W_n 1 (i' := 1) (ls' := [some (.inr (.inr p)), some (.inl i), some (.inl q)]) (st' := [.inl q]) rfl ?_
  refine jw_W_if rfl (by unfold jw_rg; omega) (fun hc1 => ?_) (fun hc1 => ?_)
  · have hc1 : q ≠ 0 := hc1
    refine jw_W_n 2 (i' := 9) (ls' := [some (.inr (.inr p)), some (.inl i), some (.inl q)]) (st' := [.inl 1, .inl q]) rfl ?_
    refine jw_W_ic rfl (by unfold jw_rg; omega) (by unfold jw_rg; omega) (fun hc2 => ?_) (fun hc2 => ?_)
    · have hc2 : q ≠ 1 := hc2
      refine jw_W_n 1 (i' := 16) (ls' := [some (.inr (.inr p)), some (.inl i), some (.inl q)]) (st' := [.inr (.inr p)]) rfl ?_
      refine jw_W_gf rfl hp.2.1 rfl ?_
      show jw_W (js_S n) _ md_62 17 [some (.inr (.inr p)), some (.inl i), some (.inl q)] [.inr (.inr (p + 3))] σ _
      refine jw_W_n 1 (i' := 18) (ls' := [some (.inr (.inr p)), some (.inl i), some (.inl q)]) (st' := [.inl i, .inr (.inr (p + 3))]) rfl ?_
      refine jw_W_ia rfl hp.2.2.2.2.1 (by omega) (by omega) (by omega) ?_
      show jw_W (js_S n) _ md_62 19 [some (.inr (.inr p)), some (.inl i), some (.inl q)] [.inl (σ (p + 3) i)] σ _
      refine jw_W_ir rfl ?_
      refine ⟨?_, rfl⟩
      simp only [jm_co, jx_pt]
      first | rw [if_pos (by omega)] | rw [if_neg (by omega), if_pos (by omega)] | rw [if_neg (by omega), if_neg (by omega)]
    · have hc2 : q = 1 := Classical.not_not.mp hc2
      refine jw_W_n 1 (i' := 11) (ls' := [some (.inr (.inr p)), some (.inl i), some (.inl q)]) (st' := [.inr (.inr p)]) rfl ?_
      refine jw_W_gf rfl hp.2.1 rfl ?_
      show jw_W (js_S n) _ md_62 12 [some (.inr (.inr p)), some (.inl i), some (.inl q)] [.inr (.inr (p + 2))] σ _
      refine jw_W_n 1 (i' := 13) (ls' := [some (.inr (.inr p)), some (.inl i), some (.inl q)]) (st' := [.inl i, .inr (.inr (p + 2))]) rfl ?_
      refine jw_W_ia rfl hp.2.2.2.1 (by omega) (by omega) (by omega) ?_
      show jw_W (js_S n) _ md_62 14 [some (.inr (.inr p)), some (.inl i), some (.inl q)] [.inl (σ (p + 2) i)] σ _
      refine jw_W_n 1 (i' := 19) (ls' := [some (.inr (.inr p)), some (.inl i), some (.inl q)]) (st' := [.inl (σ (p + 2) i)]) rfl ?_
      refine jw_W_ir rfl ?_
      refine ⟨?_, rfl⟩
      simp only [jm_co, jx_pt]
      first | rw [if_pos (by omega)] | rw [if_neg (by omega), if_pos (by omega)] | rw [if_neg (by omega), if_neg (by omega)]
  · have hc1 : q = 0 := Classical.not_not.mp hc1
    refine jw_W_n 1 (i' := 3) (ls' := [some (.inr (.inr p)), some (.inl i), some (.inl q)]) (st' := [.inr (.inr p)]) rfl ?_
    refine jw_W_gf rfl hp.2.1 rfl ?_
    show jw_W (js_S n) _ md_62 4 [some (.inr (.inr p)), some (.inl i), some (.inl q)] [.inr (.inr (p + 1))] σ _
    refine jw_W_n 1 (i' := 5) (ls' := [some (.inr (.inr p)), some (.inl i), some (.inl q)]) (st' := [.inl i, .inr (.inr (p + 1))]) rfl ?_
    refine jw_W_ia rfl hp.2.2.1 (by omega) (by omega) (by omega) ?_
    show jw_W (js_S n) _ md_62 6 [some (.inr (.inr p)), some (.inl i), some (.inl q)] [.inl (σ (p + 1) i)] σ _
    refine jw_W_n 1 (i' := 19) (ls' := [some (.inr (.inr p)), some (.inl i), some (.inl q)]) (st' := [.inl (σ (p + 1) i)]) rfl ?_
    refine jw_W_ir rfl ?_
    refine ⟨?_, rfl⟩
    simp only [jm_co, jx_pt]
    first | rw [if_pos (by omega)] | rw [if_neg (by omega), if_pos (by omega)] | rw [if_neg (by omega), if_neg (by omega)]
theorem jx_value {n : Nat} {σ : jw_H} {p : Nat} (hp : jx_pp n p) {a len : Nat} {f : Int} (ha : (js_S n)[a]? = some (.inr (0, len))) (hlen : len < 100000) (f0 : 0 ≤ f) (f1 : f + 2 < len) {i : Int} (i0 : 0 ≤ i) (i1 : i < 64) : jw_T (js_S n) 1 63 [.inr (.inr p), .inl i, .inr (.inr a), .inl f] σ (fun r σ' => r = some (.inl (ge_f (jx_G σ a f) (jx_pt σ p i))) ∧ σ' = σ) := by
  refine jw_T_of (D := 0) (M := mm_63) rfl (Nat.le_of_ble_eq_true rfl) (ls0 := [some (.inr (.inr p)), some (.inl i), some (.inr (.inr a)), some (.inl f)]) rfl ?_ (by rintro _ _ ⟨rfl, -⟩; rfl)
  have ho := hp.1
  refine jw_W_n 2 (i' := 2) (ls' := [some (.inr (.inr p)), some (.inl i), some (.inr (.inr a)), some (.inl f)]) (st' := [.inl f, .inr (.inr a)]) rfl ?_
  refine jw_W_ia rfl ha (by omega) (by omega) (by omega) ?_
  show jw_W (js_S n) _ md_63 3 [some (.inr (.inr p)), some (.inl i), some (.inr (.inr a)), some (.inl f)] [.inl (σ a f)] σ _
  refine jw_W_n 1 (i' := 4) (ls' := [some (.inr (.inr p)), some (.inl i), some (.inr (.inr a)), some (.inl f)]) (st' := [.inr (.inr p), .inl (σ a f)]) rfl ?_
  refine jw_W_gf rfl hp.2.1 rfl ?_
  show jw_W (js_S n) _ md_63 5 [some (.inr (.inr p)), some (.inl i), some (.inr (.inr a)), some (.inl f)] [.inr (.inr (p + 1)), .inl (σ a f)] σ _
  refine jw_W_n 1 (i' := 6) (ls' := [some (.inr (.inr p)), some (.inl i), some (.inr (.inr a)), some (.inl f)]) (st' := [.inl i, .inr (.inr (p + 1)), .inl (σ a f)]) rfl ?_
  refine jw_W_ia rfl hp.2.2.1 (by omega) (by omega) (by omega) ?_
  show jw_W (js_S n) _ md_63 7 [some (.inr (.inr p)), some (.inl i), some (.inr (.inr a)), some (.inl f)] [.inl (σ (p + 1) i), .inl (σ a f)] σ _
  refine jw_W_n 5 (i' := 12) (ls' := [some (.inr (.inr p)), some (.inl i), some (.inr (.inr a)), some (.inl f)]) (st' := [.inl (f + 1), .inr (.inr a), .inl ((σ a f) * (σ (p + 1) i))]) rfl ?_
  refine jw_W_ia rfl ha (by omega) (by omega) (by omega) ?_
  show jw_W (js_S n) _ md_63 13 [some (.inr (.inr p)), some (.inl i), some (.inr (.inr a)), some (.inl f)] [.inl (σ a (f + 1)), .inl ((σ a f) * (σ (p + 1) i))] σ _
  refine jw_W_n 1 (i' := 14) (ls' := [some (.inr (.inr p)), some (.inl i), some (.inr (.inr a)), some (.inl f)]) (st' := [.inr (.inr p), .inl (σ a (f + 1)), .inl ((σ a f) * (σ (p + 1) i))]) rfl ?_
  refine jw_W_gf rfl hp.2.1 rfl ?_
  show jw_W (js_S n) _ md_63 15 [some (.inr (.inr p)), some (.inl i), some (.inr (.inr a)), some (.inl f)] [.inr (.inr (p + 2)), .inl (σ a (f + 1)), .inl ((σ a f) * (σ (p + 1) i))] σ _
  refine jw_W_n 1 (i' := 16) (ls' := [some (.inr (.inr p)), some (.inl i), some (.inr (.inr a)), some (.inl f)]) (st' := [.inl i, .inr (.inr (p + 2)), .inl (σ a (f + 1)), .inl ((σ a f) * (σ (p + 1) i))]) rfl ?_
  refine jw_W_ia rfl hp.2.2.2.1 (by omega) (by omega) (by omega) ?_
  show jw_W (js_S n) _ md_63 17 [some (.inr (.inr p)), some (.inl i), some (.inr (.inr a)), some (.inl f)] [.inl (σ (p + 2) i), .inl (σ a (f + 1)), .inl ((σ a f) * (σ (p + 1) i))] σ _
  refine jw_W_n 6 (i' := 23) (ls' := [some (.inr (.inr p)), some (.inl i), some (.inr (.inr a)), some (.inl f)]) (st' := [.inl (f + 2), .inr (.inr a), .inl (((σ a f) * (σ (p + 1) i)) + ((σ a (f + 1)) * (σ (p + 2) i)))]) rfl ?_
  refine jw_W_ia rfl ha (by omega) (by omega) (by omega) ?_
  show jw_W (js_S n) _ md_63 24 [some (.inr (.inr p)), some (.inl i), some (.inr (.inr a)), some (.inl f)] [.inl (σ a (f + 2)), .inl (((σ a f) * (σ (p + 1) i)) + ((σ a (f + 1)) * (σ (p + 2) i)))] σ _
  refine jw_W_n 1 (i' := 25) (ls' := [some (.inr (.inr p)), some (.inl i), some (.inr (.inr a)), some (.inl f)]) (st' := [.inr (.inr p), .inl (σ a (f + 2)), .inl (((σ a f) * (σ (p + 1) i)) + ((σ a (f + 1)) * (σ (p + 2) i)))]) rfl ?_
  refine jw_W_gf rfl hp.2.1 rfl ?_
  show jw_W (js_S n) _ md_63 26 [some (.inr (.inr p)), some (.inl i), some (.inr (.inr a)), some (.inl f)] [.inr (.inr (p + 3)), .inl (σ a (f + 2)), .inl (((σ a f) * (σ (p + 1) i)) + ((σ a (f + 1)) * (σ (p + 2) i)))] σ _
  refine jw_W_n 1 (i' := 27) (ls' := [some (.inr (.inr p)), some (.inl i), some (.inr (.inr a)), some (.inl f)]) (st' := [.inl i, .inr (.inr (p + 3)), .inl (σ a (f + 2)), .inl (((σ a f) * (σ (p + 1) i)) + ((σ a (f + 1)) * (σ (p + 2) i)))]) rfl ?_
  refine jw_W_ia rfl hp.2.2.2.2.1 (by omega) (by omega) (by omega) ?_
  show jw_W (js_S n) _ md_63 28 [some (.inr (.inr p)), some (.inl i), some (.inr (.inr a)), some (.inl f)] [.inl (σ (p + 3) i), .inl (σ a (f + 2)), .inl (((σ a f) * (σ (p + 1) i)) + ((σ a (f + 1)) * (σ (p + 2) i)))] σ _
  refine jw_W_n 2 (i' := 30) (ls' := [some (.inr (.inr p)), some (.inl i), some (.inr (.inr a)), some (.inl f)]) (st' := [.inl ((((σ a f) * (σ (p + 1) i)) + ((σ a (f + 1)) * (σ (p + 2) i))) + ((σ a (f + 2)) * (σ (p + 3) i)))]) rfl ?_
  refine jw_W_ir rfl ?_
  exact ⟨rfl, rfl⟩
theorem jx_change {n : Nat} {σ : jw_H} {p : Nat} (hp : jx_pp n p) {a len : Nat} {f : Int} (ha : (js_S n)[a]? = some (.inr (0, len))) (hlen : len < 100000) (f0 : 0 ≤ f) (f1 : f + 2 < len) {i j : Int} (i0 : 0 ≤ i) (i1 : i < 64) (j0 : 0 ≤ j) (j1 : j < 64) (hG : jx_Gb (jx_G σ a f)) (bi : jx_bd (jx_pt σ p i)) (bj : jx_bd (jx_pt σ p j)) : jw_T (js_S n) 2 64 [.inr (.inr p), .inl i, .inl j, .inr (.inr a), .inl f] σ (fun r σ' => r = some (.inr (.inl (ge_f (jx_G σ a f) (jx_pt σ p j) * (jx_pt σ p i).2.2.2 - ge_f (jx_G σ a f) (jx_pt σ p i) * (jx_pt σ p j).2.2.2))) ∧ σ' = σ) := by
  refine jw_T_of (D := 1) (M := mm_64) rfl (Nat.le_of_ble_eq_true rfl) (ls0 := [some (.inr (.inr p)), some (.inl i), some (.inl j), some (.inr (.inr a)), some (.inl f)]) rfl ?_ (by rintro _ _ ⟨rfl, -⟩; rfl)
  have ho := hp.1
  have h1 := jx_f_bd hG bi
  have h2 := jx_f_bd hG bj
  have h3 : 0 < σ (p + 4) i ∧ σ (p + 4) i ≤ 162 := bi.2.2.2
  have h4 : 0 < σ (p + 4) j ∧ σ (p + 4) j ≤ 162 := bj.2.2.2
  refine jw_W_n 4 (i' := 4) (ls' := [some (.inr (.inr p)), some (.inl i), some (.inl j), some (.inr (.inr a)), some (.inl f)]) (st' := [.inl f, .inr (.inr a), .inl j, .inr (.inr p)]) rfl ?_
  refine jw_W_call (as := [.inr (.inr p), .inl j, .inr (.inr a), .inl f]) (rest := []) rfl rfl rfl rfl (Nat.le_of_ble_eq_true rfl) (.inr (jx_rc hp.2.1)) (jx_value hp ha hlen f0 f1 (by omega) (by omega)) (by omega) ?_ rfl
  rintro r1 σ1 ⟨rfl, hs⟩
  rw [hs]
  show jw_W (js_S n) _ md_64 5 [some (.inr (.inr p)), some (.inl i), some (.inl j), some (.inr (.inr a)), some (.inl f)] [.inl (ge_f (jx_G σ a f) (jx_pt σ p j))] σ _
  refine jw_W_i2l rfl (by unfold jw_rg; omega) ?_
  refine jw_W_n 1 (i' := 7) (ls' := [some (.inr (.inr p)), some (.inl i), some (.inl j), some (.inr (.inr a)), some (.inl f)]) (st' := [.inr (.inr p), .inr (.inl (ge_f (jx_G σ a f) (jx_pt σ p j)))]) rfl ?_
  refine jw_W_gf rfl hp.2.1 rfl ?_
  show jw_W (js_S n) _ md_64 8 [some (.inr (.inr p)), some (.inl i), some (.inl j), some (.inr (.inr a)), some (.inl f)] [.inr (.inr (p + 4)), .inr (.inl (ge_f (jx_G σ a f) (jx_pt σ p j)))] σ _
  refine jw_W_n 1 (i' := 9) (ls' := [some (.inr (.inr p)), some (.inl i), some (.inl j), some (.inr (.inr a)), some (.inl f)]) (st' := [.inl i, .inr (.inr (p + 4)), .inr (.inl (ge_f (jx_G σ a f) (jx_pt σ p j)))]) rfl ?_
  refine jw_W_ia rfl hp.2.2.2.2.2 (by omega) (by omega) (by omega) ?_
  show jw_W (js_S n) _ md_64 10 [some (.inr (.inr p)), some (.inl i), some (.inl j), some (.inr (.inr a)), some (.inl f)] [.inl (σ (p + 4) i), .inr (.inl (ge_f (jx_G σ a f) (jx_pt σ p j)))] σ _
  refine jw_W_i2l rfl (by unfold jw_rg; omega) ?_
  refine jw_W_n 5 (i' := 16) (ls' := [some (.inr (.inr p)), some (.inl i), some (.inl j), some (.inr (.inr a)), some (.inl f)]) (st' := [.inl f, .inr (.inr a), .inl i, .inr (.inr p), .inr (.inl ((ge_f (jx_G σ a f) (jx_pt σ p j)) * (σ (p + 4) i)))]) rfl ?_
  refine jw_W_call (as := [.inr (.inr p), .inl i, .inr (.inr a), .inl f]) (rest := [.inr (.inl ((ge_f (jx_G σ a f) (jx_pt σ p j)) * (σ (p + 4) i)))]) rfl rfl rfl rfl (Nat.le_of_ble_eq_true rfl) (.inr (jx_rc hp.2.1)) (jx_value hp ha hlen f0 f1 (by omega) (by omega)) (by omega) ?_ rfl
  rintro r1 σ1 ⟨rfl, hs⟩
  rw [hs]
  show jw_W (js_S n) _ md_64 17 [some (.inr (.inr p)), some (.inl i), some (.inl j), some (.inr (.inr a)), some (.inl f)] [.inl (ge_f (jx_G σ a f) (jx_pt σ p i)), .inr (.inl ((ge_f (jx_G σ a f) (jx_pt σ p j)) * (σ (p + 4) i)))] σ _
  refine jw_W_i2l rfl (by unfold jw_rg; omega) ?_
  refine jw_W_n 1 (i' := 19) (ls' := [some (.inr (.inr p)), some (.inl i), some (.inl j), some (.inr (.inr a)), some (.inl f)]) (st' := [.inr (.inr p), .inr (.inl (ge_f (jx_G σ a f) (jx_pt σ p i))), .inr (.inl ((ge_f (jx_G σ a f) (jx_pt σ p j)) * (σ (p + 4) i)))]) rfl ?_
  refine jw_W_gf rfl hp.2.1 rfl ?_
  show jw_W (js_S n) _ md_64 20 [some (.inr (.inr p)), some (.inl i), some (.inl j), some (.inr (.inr a)), some (.inl f)] [.inr (.inr (p + 4)), .inr (.inl (ge_f (jx_G σ a f) (jx_pt σ p i))), .inr (.inl ((ge_f (jx_G σ a f) (jx_pt σ p j)) * (σ (p + 4) i)))] σ _
  refine jw_W_n 1 (i' := 21) (ls' := [some (.inr (.inr p)), some (.inl i), some (.inl j), some (.inr (.inr a)), some (.inl f)]) (st' := [.inl j, .inr (.inr (p + 4)), .inr (.inl (ge_f (jx_G σ a f) (jx_pt σ p i))), .inr (.inl ((ge_f (jx_G σ a f) (jx_pt σ p j)) * (σ (p + 4) i)))]) rfl ?_
  refine jw_W_ia rfl hp.2.2.2.2.2 (by omega) (by omega) (by omega) ?_
  show jw_W (js_S n) _ md_64 22 [some (.inr (.inr p)), some (.inl i), some (.inl j), some (.inr (.inr a)), some (.inl f)] [.inl (σ (p + 4) j), .inr (.inl (ge_f (jx_G σ a f) (jx_pt σ p i))), .inr (.inl ((ge_f (jx_G σ a f) (jx_pt σ p j)) * (σ (p + 4) i)))] σ _
  refine jw_W_i2l rfl (by unfold jw_rg; omega) ?_
  refine jw_W_n 2 (i' := 25) (ls' := [some (.inr (.inr p)), some (.inl i), some (.inl j), some (.inr (.inr a)), some (.inl f)]) (st' := [.inr (.inl (((ge_f (jx_G σ a f) (jx_pt σ p j)) * (σ (p + 4) i)) - ((ge_f (jx_G σ a f) (jx_pt σ p i)) * (σ (p + 4) j))))]) rfl ?_
  refine jw_W_lr rfl ?_
  exact ⟨rfl, rfl⟩
/-- a point has less of a sum than another one -/
def jx_wl (d : ge_D) (u v : ge_R) : Prop := ge_f d u * v.2.2.2 < ge_f d v * u.2.2.2
theorem jx_wl_1 {d : ge_D} {u v w : ge_R} (wu : 0 < u.2.2.2) (wv : 0 < v.2.2.2) (ww : 0 < w.2.2.2) (h1 : ¬ jx_wl d v u) (h2 : jx_wl d v w) : jx_wl d u w := by
  unfold jx_wl at *
  exact ge_fr_lt wu wv ww (by omega) (by omega) (.inr h2)
theorem jx_wl_2 {d : ge_D} {u v w : ge_R} (wu : 0 < u.2.2.2) (wv : 0 < v.2.2.2) (ww : 0 < w.2.2.2) (h1 : jx_wl d u v) (h2 : ¬ jx_wl d w v) : jx_wl d u w := by
  unfold jx_wl at *
  exact ge_fr_lt wu wv ww (by omega) (by omega) (.inl h1)
theorem jx_wl_as {d : ge_D} {u v : ge_R} (h : jx_wl d u v) : ¬ jx_wl d v u := by
  unfold jx_wl at *
  omega
/-- the first with most of a sum; -1: there is none -/
def jx_fst (d : ge_D) (P : Int → ge_R) (m b : Int) : Prop := (m ≤ 0 ∧ b = -1) ∨ ((0 ≤ b ∧ b < m) ∧ ∀ i, 0 ≤ i → i < m → ¬ jx_wl d (P b) (P i) ∧ (i < b → jx_wl d (P i) (P b)))
theorem jx_fst_no {d : ge_D} {P : Int → ge_R} {m b : Int} (m0 : 0 < m) (h : jx_fst d P m b) (hn : ¬ jx_wl d (P b) (P m)) : jx_fst d P (m + 1) b := by
  rcases h with h | ⟨h1, h2⟩
  · omega
  · refine .inr ⟨by omega, fun i i0 i1 => ?_⟩
    by_cases e : i = m
    · rw [e]
      exact ⟨hn, fun hh => by omega⟩
    · exact h2 i i0 (by omega)
theorem jx_fst_yes {d : ge_D} {P : Int → ge_R} {m b : Int} (hw : ∀ i, 0 ≤ i → i ≤ m → 0 < (P i).2.2.2) (m0 : 0 < m) (h : jx_fst d P m b) (hy : jx_wl d (P b) (P m)) : jx_fst d P (m + 1) m := by
  rcases h with h | ⟨h1, h2⟩
  · omega
  · refine .inr ⟨by omega, fun i i0 i1 => ?_⟩
    by_cases e : i = m
    · rw [e]
      exact ⟨fun hh => by unfold jx_wl at hh; omega, fun hh => by omega⟩
    · have h3 := jx_wl_1 (hw i i0 (by omega)) (hw b h1.1 (by omega)) (hw m (by omega) (by omega)) (h2 i i0 (by omega)).1 hy
      exact ⟨jx_wl_as h3, fun _ => h3⟩
/-- there is just one such -/
theorem jx_fst_uq {d : ge_D} {P : Int → ge_R} {m b c : Int} (hb : jx_fst d P m b) (hc : jx_fst d P m c) : b = c := by
  rcases hb with hb | ⟨b1, b2⟩
  · rcases hc with hc | ⟨c1, c2⟩ <;> omega
  · rcases hc with hc | ⟨c1, c2⟩
    · omega
    · by_cases h : b < c
      · exact absurd ((c2 b b1.1 b1.2).2 h) (b2 c c1.1 c1.2).1
      · by_cases h' : c < b
        · exact absurd ((b2 c c1.1 c1.2).2 h') (c2 b b1.1 b1.2).1
        · omega
theorem jx_first_loop {n : Nat} {σ : jw_H} {p : Nat} (hp : jx_pp n p) {a len : Nat} {f : Int} (ha : (js_S n)[a]? = some (.inr (0, len))) (hlen : len < 100000) (f0 : 0 ≤ f) (f1 : f + 2 < len) (hG : jx_Gb (jx_G σ a f)) (hb : jx_pb σ p) : ∀ (t : Nat) {b m : Int}, 1 ≤ m → (σ p 0 = 0 ∧ m = 1 ∧ b = -1 ∨ 0 ≤ b ∧ b < m ∧ m + t = σ p 0) → (σ p 0 ≤ 0 ∨ jx_fst (jx_G σ a f) (jx_pt σ p) m b) → jw_W (js_S n) 2 md_65 9 [some (.inr (.inr p)), some (.inr (.inr a)), some (.inl f), some (.inl b), some (.inl m)] [] σ (fun r σ' => ∃ b, r = some (.inl b) ∧ σ' = σ ∧ jx_fst (jx_G σ a f) (jx_pt σ p) (σ p 0) b)
  | t, b, m, m1, hk, H => by
    have ih : ∀ {b' : Int}, m < σ p 0 → (0 ≤ b' ∧ b' < m + 1) → (σ p 0 ≤ 0 ∨ jx_fst (jx_G σ a f) (jx_pt σ p) (m + 1) b') → jw_W (js_S n) 2 md_65 9 [some (.inr (.inr p)), some (.inr (.inr a)), some (.inl f), some (.inl b'), some (.inl (m + 1))] [] σ (fun r σ' => ∃ b, r = some (.inl b) ∧ σ' = σ ∧ jx_fst (jx_G σ a f) (jx_pt σ p) (σ p 0) b) := by
      intro b' h1 h2 h3
      match t, hk with
      | 0, hk => omega
      | t + 1, hk => exact jx_first_loop hp ha hlen f0 f1 hG hb t (by omega) (by omega) h3
    have hR : σ p 0 ≤ m → ∃ b_1, (some (.inl b) : Option jw_V) = some (.inl b_1) ∧ σ = σ ∧ jx_fst (jx_G σ a f) (jx_pt σ p) (σ p 0) b_1 := by
      intro h1
      refine ⟨b, rfl, rfl, ?_⟩
      by_cases h2 : σ p 0 ≤ 0
      · exact .inl ⟨h2, by omega⟩
      · rw [show σ p 0 = m by omega]
        exact H.resolve_left h2
    have ho := hp.1
    have hm := hb.1
    refine jw_W_n 2 (i' := 11) (ls' := [some (.inr (.inr p)), some (.inr (.inr a)), some (.inl f), some (.inl b), some (.inl m)]) (st' := [.inr (.inr p), .inl m]) rfl ?_
    refine jw_W_gf rfl hp.2.1 rfl ?_
    show jw_W (js_S n) _ md_65 12 [some (.inr (.inr p)), some (.inr (.inr a)), some (.inl f), some (.inl b), some (.inl m)] [.inl (σ p 0), .inl m] σ _
    refine jw_W_ic rfl (by unfold jw_rg; omega) (by unfold jw_rg; omega) (fun hc1 => ?_) (fun hc1 => ?_)
    · have hc1 : m ≥ (σ p 0) := hc1
      refine jw_W_n 1 (i' := 27) (ls' := [some (.inr (.inr p)), some (.inr (.inr a)), some (.inl f), some (.inl b), some (.inl m)]) (st' := [.inl b]) rfl ?_
      refine jw_W_ir rfl ?_
      exact hR (by omega)
    · have hc1 : ¬ (m ≥ (σ p 0)) := hc1
      refine jw_W_n 5 (i' := 18) (ls' := [some (.inr (.inr p)), some (.inr (.inr a)), some (.inl f), some (.inl b), some (.inl m)]) (st' := [.inl f, .inr (.inr a), .inl m, .inl b, .inr (.inr p)]) rfl ?_
      refine jw_W_call (as := [.inr (.inr p), .inl b, .inl m, .inr (.inr a), .inl f]) (rest := []) rfl rfl rfl rfl (Nat.le_of_ble_eq_true rfl) (.inr (jx_rc hp.2.1)) (jx_change hp ha hlen f0 f1 (by omega) (by omega) (by omega) (by omega) hG (hb.2 b (by omega) (by omega)) (hb.2 m (by omega) (by omega))) (by omega) ?_ rfl
      rintro r1 σ1 ⟨rfl, hs⟩
      rw [hs]
      have q1 := jx_fw_bd hG (hb.2 m (by omega) (by omega)) (hb.2 b (by omega) (by omega))
      have q2 := jx_fw_bd hG (hb.2 b (by omega) (by omega)) (hb.2 m (by omega) (by omega))
      show jw_W (js_S n) _ md_65 19 [some (.inr (.inr p)), some (.inr (.inr a)), some (.inl f), some (.inl b), some (.inl m)] [.inr (.inl (ge_f (jx_G σ a f) (jx_pt σ p m) * (jx_pt σ p b).2.2.2 - ge_f (jx_G σ a f) (jx_pt σ p b) * (jx_pt σ p m).2.2.2))] σ _
      refine jw_W_n 1 (i' := 20) (ls' := [some (.inr (.inr p)), some (.inr (.inr a)), some (.inl f), some (.inl b), some (.inl m)]) (st' := [.inr (.inl 0), .inr (.inl (ge_f (jx_G σ a f) (jx_pt σ p m) * (jx_pt σ p b).2.2.2 - ge_f (jx_G σ a f) (jx_pt σ p b) * (jx_pt σ p m).2.2.2))]) rfl ?_
      refine jw_W_lc rfl rfl (by unfold jw_rgl; omega) (by unfold jw_rgl; omega) (fun hc2 => ?_) (fun hc2 => ?_)
      · have hc2 : (ge_f (jx_G σ a f) (jx_pt σ p m) * (jx_pt σ p b).2.2.2 - ge_f (jx_G σ a f) (jx_pt σ p b) * (jx_pt σ p m).2.2.2) ≤ 0 := hc2
        refine jw_W_n 2 (i' := 9) (ls' := [some (.inr (.inr p)), some (.inr (.inr a)), some (.inl f), some (.inl b), some (.inl (m + 1))]) (st' := []) rfl ?_
        exact ih (by omega) (by omega) (.inr (jx_fst_no (by omega) (H.resolve_left (by omega)) (by unfold jx_wl; omega)))
      · have hc2 : ¬ ((ge_f (jx_G σ a f) (jx_pt σ p m) * (jx_pt σ p b).2.2.2 - ge_f (jx_G σ a f) (jx_pt σ p b) * (jx_pt σ p m).2.2.2) ≤ 0) := hc2
        refine jw_W_n 4 (i' := 9) (ls' := [some (.inr (.inr p)), some (.inr (.inr a)), some (.inl f), some (.inl m), some (.inl (m + 1))]) (st' := []) rfl ?_
        exact ih (by omega) (by omega) (.inr (jx_fst_yes (fun i i0 i1 => (hb.2 i i0 (by omega)).2.2.2.1) (by omega) (H.resolve_left (by omega)) (by unfold jx_wl; omega)))
theorem jx_firstWithMost {n : Nat} {σ : jw_H} {p : Nat} (hp : jx_pp n p) {a len : Nat} {f : Int} (ha : (js_S n)[a]? = some (.inr (0, len))) (hlen : len < 100000) (f0 : 0 ≤ f) (f1 : f + 2 < len) (hG : jx_Gb (jx_G σ a f)) (hb : jx_pb σ p) : jw_T (js_S n) 3 65 [.inr (.inr p), .inr (.inr a), .inl f] σ (fun r σ' => ∃ b, r = some (.inl b) ∧ σ' = σ ∧ jx_fst (jx_G σ a f) (jx_pt σ p) (σ p 0) b) := by
  refine jw_T_of (D := 2) (M := mm_65) rfl (Nat.le_of_ble_eq_true rfl) (ls0 := [some (.inr (.inr p)), some (.inr (.inr a)), some (.inl f), none, none]) rfl ?_ (by rintro _ _ ⟨_, rfl, -⟩; rfl)
  have ho := hp.1
  have hm := hb.1
  refine jw_W_n 1 (i' := 1) (ls' := [some (.inr (.inr p)), some (.inr (.inr a)), some (.inl f), none, none]) (st' := [.inr (.inr p)]) rfl ?_
  refine jw_W_gf rfl hp.2.1 rfl ?_
  show jw_W (js_S n) _ md_65 2 [some (.inr (.inr p)), some (.inr (.inr a)), some (.inl f), none, none] [.inl (σ p 0)] σ _
  refine jw_W_if rfl (by unfold jw_rg; omega) (fun hc1 => ?_) (fun hc1 => ?_)
  · have hc1 : (σ p 0) ≤ 0 := hc1
    refine jw_W_n 4 (i' := 9) (ls' := [some (.inr (.inr p)), some (.inr (.inr a)), some (.inl f), some (.inl ((-1))), some (.inl 1)]) (st' := []) rfl ?_
    exact jx_first_loop hp ha hlen f0 f1 hG hb (σ p 0 - 1).toNat (b := -1) (m := 1) (by omega) (by omega) (.inl (by omega))
  · have hc1 : ¬ ((σ p 0) ≤ 0) := hc1
    refine jw_W_n 5 (i' := 9) (ls' := [some (.inr (.inr p)), some (.inr (.inr a)), some (.inl f), some (.inl 0), some (.inl 1)]) (st' := []) rfl ?_
    exact jx_first_loop hp ha hlen f0 f1 hG hb (σ p 0 - 1).toNat (b := 0) (m := 1) (by omega) (by omega) (.inr (.inr ⟨by omega, fun i i0 i1 => by rw [show i = 0 by omega]; exact ⟨fun hh => by unfold jx_wl at hh; omega, fun hh => by omega⟩⟩))
theorem jx_xw {x w : Int} (hx : -1458 ≤ x ∧ x ≤ 1458) (hw : 0 < w ∧ w ≤ 162) : -236196 ≤ x * w ∧ x * w ≤ 236196 := by
  have := jm_ab2 (S := 1458) (X := 162) hx.1 hx.2 (by omega) (Int.le_of_lt hw.1) hw.2
  omega
theorem jx_isAhead {n : Nat} {σ : jw_H} {p : Nat} (hp : jx_pp n p) {x y z w i : Int} (i0 : 0 ≤ i) (i1 : i < 64) (bv : jx_bd (x, y, z, w)) (bi : jx_bd (jx_pt σ p i)) : jw_T (js_S n) 1 61 [.inr (.inr p), .inl x, .inl y, .inl z, .inl w, .inl i] σ (fun r σ' => (r = some (.inl 1) ∧ σ' = σ ∧ ge_lt (x, y, z, w) (jx_pt σ p i) = true) ∨ (r = some (.inl 0) ∧ σ' = σ ∧ ¬ ge_lt (x, y, z, w) (jx_pt σ p i) = true)) := by
  refine jw_T_of (D := 0) (M := mm_61) rfl (Nat.le_of_ble_eq_true rfl) (ls0 := [some (.inr (.inr p)), some (.inl x), some (.inl y), some (.inl z), some (.inl w), some (.inl i), none, none]) rfl ?_ (by rintro _ _ (⟨rfl, -⟩ | ⟨rfl, -⟩) <;> rfl)
  have ho := hp.1
  obtain ⟨v1, v2, v3, v4⟩ := bv
  obtain ⟨u1, u2, u3, u4⟩ := bi
  simp only [jx_pt] at v1 v2 v3 v4 u1 u2 u3 u4
  have a1 := jx_xw v1 u4
  have a2 := jx_xw v2 u4
  have a3 := jx_xw v3 u4
  have b1 := jx_xw u1 v4
  have b2 := jx_xw u2 v4
  have b3 := jx_xw u3 v4
  refine jw_W_n 1 (i' := 1) (ls' := [some (.inr (.inr p)), some (.inl x), some (.inl y), some (.inl z), some (.inl w), some (.inl i), none, none]) (st' := [.inl x]) rfl ?_
  refine jw_W_i2l rfl (by unfold jw_rg; omega) ?_
  refine jw_W_n 1 (i' := 3) (ls' := [some (.inr (.inr p)), some (.inl x), some (.inl y), some (.inl z), some (.inl w), some (.inl i), none, none]) (st' := [.inr (.inr p), .inr (.inl x)]) rfl ?_
  refine jw_W_gf rfl hp.2.1 rfl ?_
  show jw_W (js_S n) _ md_61 4 [some (.inr (.inr p)), some (.inl x), some (.inl y), some (.inl z), some (.inl w), some (.inl i), none, none] [.inr (.inr (p + 4)), .inr (.inl x)] σ _
  refine jw_W_n 1 (i' := 5) (ls' := [some (.inr (.inr p)), some (.inl x), some (.inl y), some (.inl z), some (.inl w), some (.inl i), none, none]) (st' := [.inl i, .inr (.inr (p + 4)), .inr (.inl x)]) rfl ?_
  refine jw_W_ia rfl hp.2.2.2.2.2 (by omega) (by omega) (by omega) ?_
  show jw_W (js_S n) _ md_61 6 [some (.inr (.inr p)), some (.inl x), some (.inl y), some (.inl z), some (.inl w), some (.inl i), none, none] [.inl (σ (p + 4) i), .inr (.inl x)] σ _
  refine jw_W_i2l rfl (by unfold jw_rg; omega) ?_
  refine jw_W_n 2 (i' := 9) (ls' := [some (.inr (.inr p)), some (.inl x), some (.inl y), some (.inl z), some (.inl w), some (.inl i), none, none]) (st' := [.inr (.inr p), .inr (.inl (x * (σ (p + 4) i)))]) rfl ?_
  refine jw_W_gf rfl hp.2.1 rfl ?_
  show jw_W (js_S n) _ md_61 10 [some (.inr (.inr p)), some (.inl x), some (.inl y), some (.inl z), some (.inl w), some (.inl i), none, none] [.inr (.inr (p + 1)), .inr (.inl (x * (σ (p + 4) i)))] σ _
  refine jw_W_n 1 (i' := 11) (ls' := [some (.inr (.inr p)), some (.inl x), some (.inl y), some (.inl z), some (.inl w), some (.inl i), none, none]) (st' := [.inl i, .inr (.inr (p + 1)), .inr (.inl (x * (σ (p + 4) i)))]) rfl ?_
  refine jw_W_ia rfl hp.2.2.1 (by omega) (by omega) (by omega) ?_
  show jw_W (js_S n) _ md_61 12 [some (.inr (.inr p)), some (.inl x), some (.inl y), some (.inl z), some (.inl w), some (.inl i), none, none] [.inl (σ (p + 1) i), .inr (.inl (x * (σ (p + 4) i)))] σ _
  refine jw_W_i2l rfl (by unfold jw_rg; omega) ?_
  refine jw_W_n 1 (i' := 14) (ls' := [some (.inr (.inr p)), some (.inl x), some (.inl y), some (.inl z), some (.inl w), some (.inl i), none, none]) (st' := [.inl w, .inr (.inl (σ (p + 1) i)), .inr (.inl (x * (σ (p + 4) i)))]) rfl ?_
  refine jw_W_i2l rfl (by unfold jw_rg; omega) ?_
  refine jw_W_n 5 (i' := 20) (ls' := [some (.inr (.inr p)), some (.inl x), some (.inl y), some (.inl z), some (.inl w), some (.inl i), some (.inr (.inl ((x * (σ (p + 4) i)) - ((σ (p + 1) i) * w)))), none]) (st' := [.inr (.inl 0), .inr (.inl ((x * (σ (p + 4) i)) - ((σ (p + 1) i) * w)))]) rfl ?_
  refine jw_W_lc rfl rfl (by unfold jw_rgl; omega) (by unfold jw_rgl; omega) (fun hc1 => ?_) (fun hc1 => ?_)
  · have hc1 : ((x * (σ (p + 4) i)) - ((σ (p + 1) i) * w)) ≠ 0 := hc1
    refine jw_W_n 2 (i' := 42) (ls' := [some (.inr (.inr p)), some (.inl x), some (.inl y), some (.inl z), some (.inl w), some (.inl i), some (.inr (.inl ((x * (σ (p + 4) i)) - ((σ (p + 1) i) * w)))), none]) (st' := [.inr (.inl 0), .inr (.inl ((x * (σ (p + 4) i)) - ((σ (p + 1) i) * w)))]) rfl ?_
    refine jw_W_lc rfl rfl (by unfold jw_rgl; omega) (by unfold jw_rgl; omega) (fun hc2 => ?_) (fun hc2 => ?_)
    · have hc2 : ((x * (σ (p + 4) i)) - ((σ (p + 1) i) * w)) ≠ 0 := hc2
      refine jw_W_n 2 (i' := 64) (ls' := [some (.inr (.inr p)), some (.inl x), some (.inl y), some (.inl z), some (.inl w), some (.inl i), some (.inr (.inl ((x * (σ (p + 4) i)) - ((σ (p + 1) i) * w)))), none]) (st' := [.inr (.inl 0), .inr (.inl ((x * (σ (p + 4) i)) - ((σ (p + 1) i) * w)))]) rfl ?_
      refine jw_W_lc rfl rfl (by unfold jw_rgl; omega) (by unfold jw_rgl; omega) (fun hc3 => ?_) (fun hc3 => ?_)
      · have hc3 : ((x * (σ (p + 4) i)) - ((σ (p + 1) i) * w)) ≥ 0 := hc3
        refine jw_W_n 1 (i' := 69) (ls' := [some (.inr (.inr p)), some (.inl x), some (.inl y), some (.inl z), some (.inl w), some (.inl i), some (.inr (.inl ((x * (σ (p + 4) i)) - ((σ (p + 1) i) * w)))), none]) (st' := [.inl 0]) rfl ?_
        refine jw_W_ir rfl ?_
        refine .inr ⟨rfl, rfl, fun hh => ?_⟩
        have hh := (ge_lt_iff _ _).mp hh
        simp only [jx_pt] at hh
        omega
      · have hc3 : ¬ (((x * (σ (p + 4) i)) - ((σ (p + 1) i) * w)) ≥ 0) := hc3
        refine jw_W_n 2 (i' := 69) (ls' := [some (.inr (.inr p)), some (.inl x), some (.inl y), some (.inl z), some (.inl w), some (.inl i), some (.inr (.inl ((x * (σ (p + 4) i)) - ((σ (p + 1) i) * w)))), none]) (st' := [.inl 1]) rfl ?_
        refine jw_W_ir rfl ?_
        refine .inl ⟨rfl, rfl, (ge_lt_iff _ _).mpr ?_⟩
        simp only [jx_pt]
        omega
    · have hc2 : ((x * (σ (p + 4) i)) - ((σ (p + 1) i) * w)) = 0 := Classical.not_not.mp hc2
      refine jw_W_n 1 (i' := 45) (ls' := [some (.inr (.inr p)), some (.inl x), some (.inl y), some (.inl z), some (.inl w), some (.inl i), some (.inr (.inl ((x * (σ (p + 4) i)) - ((σ (p + 1) i) * w)))), none]) (st' := [.inl z]) rfl ?_
      refine jw_W_i2l rfl (by unfold jw_rg; omega) ?_
      refine jw_W_n 1 (i' := 47) (ls' := [some (.inr (.inr p)), some (.inl x), some (.inl y), some (.inl z), some (.inl w), some (.inl i), some (.inr (.inl ((x * (σ (p + 4) i)) - ((σ (p + 1) i) * w)))), none]) (st' := [.inr (.inr p), .inr (.inl z)]) rfl ?_
      refine jw_W_gf rfl hp.2.1 rfl ?_
      show jw_W (js_S n) _ md_61 48 [some (.inr (.inr p)), some (.inl x), some (.inl y), some (.inl z), some (.inl w), some (.inl i), some (.inr (.inl ((x * (σ (p + 4) i)) - ((σ (p + 1) i) * w)))), none] [.inr (.inr (p + 4)), .inr (.inl z)] σ _
      refine jw_W_n 1 (i' := 49) (ls' := [some (.inr (.inr p)), some (.inl x), some (.inl y), some (.inl z), some (.inl w), some (.inl i), some (.inr (.inl ((x * (σ (p + 4) i)) - ((σ (p + 1) i) * w)))), none]) (st' := [.inl i, .inr (.inr (p + 4)), .inr (.inl z)]) rfl ?_
      refine jw_W_ia rfl hp.2.2.2.2.2 (by omega) (by omega) (by omega) ?_
      show jw_W (js_S n) _ md_61 50 [some (.inr (.inr p)), some (.inl x), some (.inl y), some (.inl z), some (.inl w), some (.inl i), some (.inr (.inl ((x * (σ (p + 4) i)) - ((σ (p + 1) i) * w)))), none] [.inl (σ (p + 4) i), .inr (.inl z)] σ _
      refine jw_W_i2l rfl (by unfold jw_rg; omega) ?_
      refine jw_W_n 2 (i' := 53) (ls' := [some (.inr (.inr p)), some (.inl x), some (.inl y), some (.inl z), some (.inl w), some (.inl i), some (.inr (.inl ((x * (σ (p + 4) i)) - ((σ (p + 1) i) * w)))), none]) (st' := [.inr (.inr p), .inr (.inl (z * (σ (p + 4) i)))]) rfl ?_
      refine jw_W_gf rfl hp.2.1 rfl ?_
      show jw_W (js_S n) _ md_61 54 [some (.inr (.inr p)), some (.inl x), some (.inl y), some (.inl z), some (.inl w), some (.inl i), some (.inr (.inl ((x * (σ (p + 4) i)) - ((σ (p + 1) i) * w)))), none] [.inr (.inr (p + 3)), .inr (.inl (z * (σ (p + 4) i)))] σ _
      refine jw_W_n 1 (i' := 55) (ls' := [some (.inr (.inr p)), some (.inl x), some (.inl y), some (.inl z), some (.inl w), some (.inl i), some (.inr (.inl ((x * (σ (p + 4) i)) - ((σ (p + 1) i) * w)))), none]) (st' := [.inl i, .inr (.inr (p + 3)), .inr (.inl (z * (σ (p + 4) i)))]) rfl ?_
      refine jw_W_ia rfl hp.2.2.2.2.1 (by omega) (by omega) (by omega) ?_
      show jw_W (js_S n) _ md_61 56 [some (.inr (.inr p)), some (.inl x), some (.inl y), some (.inl z), some (.inl w), some (.inl i), some (.inr (.inl ((x * (σ (p + 4) i)) - ((σ (p + 1) i) * w)))), none] [.inl (σ (p + 3) i), .inr (.inl (z * (σ (p + 4) i)))] σ _
      refine jw_W_i2l rfl (by unfold jw_rg; omega) ?_
      refine jw_W_n 1 (i' := 58) (ls' := [some (.inr (.inr p)), some (.inl x), some (.inl y), some (.inl z), some (.inl w), some (.inl i), some (.inr (.inl ((x * (σ (p + 4) i)) - ((σ (p + 1) i) * w)))), none]) (st' := [.inl w, .inr (.inl (σ (p + 3) i)), .inr (.inl (z * (σ (p + 4) i)))]) rfl ?_
      refine jw_W_i2l rfl (by unfold jw_rg; omega) ?_
      refine jw_W_n 5 (i' := 64) (ls' := [some (.inr (.inr p)), some (.inl x), some (.inl y), some (.inl z), some (.inl w), some (.inl i), some (.inr (.inl ((z * (σ (p + 4) i)) - ((σ (p + 3) i) * w)))), none]) (st' := [.inr (.inl 0), .inr (.inl ((z * (σ (p + 4) i)) - ((σ (p + 3) i) * w)))]) rfl ?_
      refine jw_W_lc rfl rfl (by unfold jw_rgl; omega) (by unfold jw_rgl; omega) (fun hc4 => ?_) (fun hc4 => ?_)
      · have hc4 : ((z * (σ (p + 4) i)) - ((σ (p + 3) i) * w)) ≥ 0 := hc4
        refine jw_W_n 1 (i' := 69) (ls' := [some (.inr (.inr p)), some (.inl x), some (.inl y), some (.inl z), some (.inl w), some (.inl i), some (.inr (.inl ((z * (σ (p + 4) i)) - ((σ (p + 3) i) * w)))), none]) (st' := [.inl 0]) rfl ?_
        refine jw_W_ir rfl ?_
        refine .inr ⟨rfl, rfl, fun hh => ?_⟩
        have hh := (ge_lt_iff _ _).mp hh
        simp only [jx_pt] at hh
        omega
      · have hc4 : ¬ (((z * (σ (p + 4) i)) - ((σ (p + 3) i) * w)) ≥ 0) := hc4
        refine jw_W_n 2 (i' := 69) (ls' := [some (.inr (.inr p)), some (.inl x), some (.inl y), some (.inl z), some (.inl w), some (.inl i), some (.inr (.inl ((z * (σ (p + 4) i)) - ((σ (p + 3) i) * w)))), none]) (st' := [.inl 1]) rfl ?_
        refine jw_W_ir rfl ?_
        refine .inl ⟨rfl, rfl, (ge_lt_iff _ _).mpr ?_⟩
        simp only [jx_pt]
        omega
  · have hc1 : ((x * (σ (p + 4) i)) - ((σ (p + 1) i) * w)) = 0 := Classical.not_not.mp hc1
    refine jw_W_n 1 (i' := 23) (ls' := [some (.inr (.inr p)), some (.inl x), some (.inl y), some (.inl z), some (.inl w), some (.inl i), some (.inr (.inl ((x * (σ (p + 4) i)) - ((σ (p + 1) i) * w)))), none]) (st' := [.inl y]) rfl ?_
    refine jw_W_i2l rfl (by unfold jw_rg; omega) ?_
    refine jw_W_n 1 (i' := 25) (ls' := [some (.inr (.inr p)), some (.inl x), some (.inl y), some (.inl z), some (.inl w), some (.inl i), some (.inr (.inl ((x * (σ (p + 4) i)) - ((σ (p + 1) i) * w)))), none]) (st' := [.inr (.inr p), .inr (.inl y)]) rfl ?_
    refine jw_W_gf rfl hp.2.1 rfl ?_
    show jw_W (js_S n) _ md_61 26 [some (.inr (.inr p)), some (.inl x), some (.inl y), some (.inl z), some (.inl w), some (.inl i), some (.inr (.inl ((x * (σ (p + 4) i)) - ((σ (p + 1) i) * w)))), none] [.inr (.inr (p + 4)), .inr (.inl y)] σ _
    refine jw_W_n 1 (i' := 27) (ls' := [some (.inr (.inr p)), some (.inl x), some (.inl y), some (.inl z), some (.inl w), some (.inl i), some (.inr (.inl ((x * (σ (p + 4) i)) - ((σ (p + 1) i) * w)))), none]) (st' := [.inl i, .inr (.inr (p + 4)), .inr (.inl y)]) rfl ?_
    refine jw_W_ia rfl hp.2.2.2.2.2 (by omega) (by omega) (by omega) ?_
    show jw_W (js_S n) _ md_61 28 [some (.inr (.inr p)), some (.inl x), some (.inl y), some (.inl z), some (.inl w), some (.inl i), some (.inr (.inl ((x * (σ (p + 4) i)) - ((σ (p + 1) i) * w)))), none] [.inl (σ (p + 4) i), .inr (.inl y)] σ _
    refine jw_W_i2l rfl (by unfold jw_rg; omega) ?_
    refine jw_W_n 2 (i' := 31) (ls' := [some (.inr (.inr p)), some (.inl x), some (.inl y), some (.inl z), some (.inl w), some (.inl i), some (.inr (.inl ((x * (σ (p + 4) i)) - ((σ (p + 1) i) * w)))), none]) (st' := [.inr (.inr p), .inr (.inl (y * (σ (p + 4) i)))]) rfl ?_
    refine jw_W_gf rfl hp.2.1 rfl ?_
    show jw_W (js_S n) _ md_61 32 [some (.inr (.inr p)), some (.inl x), some (.inl y), some (.inl z), some (.inl w), some (.inl i), some (.inr (.inl ((x * (σ (p + 4) i)) - ((σ (p + 1) i) * w)))), none] [.inr (.inr (p + 2)), .inr (.inl (y * (σ (p + 4) i)))] σ _
    refine jw_W_n 1 (i' := 33) (ls' := [some (.inr (.inr p)), some (.inl x), some (.inl y), some (.inl z), some (.inl w), some (.inl i), some (.inr (.inl ((x * (σ (p + 4) i)) - ((σ (p + 1) i) * w)))), none]) (st' := [.inl i, .inr (.inr (p + 2)), .inr (.inl (y * (σ (p + 4) i)))]) rfl ?_
    refine jw_W_ia rfl hp.2.2.2.1 (by omega) (by omega) (by omega) ?_
    show jw_W (js_S n) _ md_61 34 [some (.inr (.inr p)), some (.inl x), some (.inl y), some (.inl z), some (.inl w), some (.inl i), some (.inr (.inl ((x * (σ (p + 4) i)) - ((σ (p + 1) i) * w)))), none] [.inl (σ (p + 2) i), .inr (.inl (y * (σ (p + 4) i)))] σ _
    refine jw_W_i2l rfl (by unfold jw_rg; omega) ?_
    refine jw_W_n 1 (i' := 36) (ls' := [some (.inr (.inr p)), some (.inl x), some (.inl y), some (.inl z), some (.inl w), some (.inl i), some (.inr (.inl ((x * (σ (p + 4) i)) - ((σ (p + 1) i) * w)))), none]) (st' := [.inl w, .inr (.inl (σ (p + 2) i)), .inr (.inl (y * (σ (p + 4) i)))]) rfl ?_
    refine jw_W_i2l rfl (by unfold jw_rg; omega) ?_
    refine jw_W_n 5 (i' := 42) (ls' := [some (.inr (.inr p)), some (.inl x), some (.inl y), some (.inl z), some (.inl w), some (.inl i), some (.inr (.inl ((y * (σ (p + 4) i)) - ((σ (p + 2) i) * w)))), none]) (st' := [.inr (.inl 0), .inr (.inl ((y * (σ (p + 4) i)) - ((σ (p + 2) i) * w)))]) rfl ?_
    refine jw_W_lc rfl rfl (by unfold jw_rgl; omega) (by unfold jw_rgl; omega) (fun hc5 => ?_) (fun hc5 => ?_)
    · have hc5 : ((y * (σ (p + 4) i)) - ((σ (p + 2) i) * w)) ≠ 0 := hc5
      refine jw_W_n 2 (i' := 64) (ls' := [some (.inr (.inr p)), some (.inl x), some (.inl y), some (.inl z), some (.inl w), some (.inl i), some (.inr (.inl ((y * (σ (p + 4) i)) - ((σ (p + 2) i) * w)))), none]) (st' := [.inr (.inl 0), .inr (.inl ((y * (σ (p + 4) i)) - ((σ (p + 2) i) * w)))]) rfl ?_
      refine jw_W_lc rfl rfl (by unfold jw_rgl; omega) (by unfold jw_rgl; omega) (fun hc6 => ?_) (fun hc6 => ?_)
      · have hc6 : ((y * (σ (p + 4) i)) - ((σ (p + 2) i) * w)) ≥ 0 := hc6
        refine jw_W_n 1 (i' := 69) (ls' := [some (.inr (.inr p)), some (.inl x), some (.inl y), some (.inl z), some (.inl w), some (.inl i), some (.inr (.inl ((y * (σ (p + 4) i)) - ((σ (p + 2) i) * w)))), none]) (st' := [.inl 0]) rfl ?_
        refine jw_W_ir rfl ?_
        refine .inr ⟨rfl, rfl, fun hh => ?_⟩
        have hh := (ge_lt_iff _ _).mp hh
        simp only [jx_pt] at hh
        omega
      · have hc6 : ¬ (((y * (σ (p + 4) i)) - ((σ (p + 2) i) * w)) ≥ 0) := hc6
        refine jw_W_n 2 (i' := 69) (ls' := [some (.inr (.inr p)), some (.inl x), some (.inl y), some (.inl z), some (.inl w), some (.inl i), some (.inr (.inl ((y * (σ (p + 4) i)) - ((σ (p + 2) i) * w)))), none]) (st' := [.inl 1]) rfl ?_
        refine jw_W_ir rfl ?_
        refine .inl ⟨rfl, rfl, (ge_lt_iff _ _).mpr ?_⟩
        simp only [jx_pt]
        omega
    · have hc5 : ((y * (σ (p + 4) i)) - ((σ (p + 2) i) * w)) = 0 := Classical.not_not.mp hc5
      refine jw_W_n 1 (i' := 45) (ls' := [some (.inr (.inr p)), some (.inl x), some (.inl y), some (.inl z), some (.inl w), some (.inl i), some (.inr (.inl ((y * (σ (p + 4) i)) - ((σ (p + 2) i) * w)))), none]) (st' := [.inl z]) rfl ?_
      refine jw_W_i2l rfl (by unfold jw_rg; omega) ?_
      refine jw_W_n 1 (i' := 47) (ls' := [some (.inr (.inr p)), some (.inl x), some (.inl y), some (.inl z), some (.inl w), some (.inl i), some (.inr (.inl ((y * (σ (p + 4) i)) - ((σ (p + 2) i) * w)))), none]) (st' := [.inr (.inr p), .inr (.inl z)]) rfl ?_
      refine jw_W_gf rfl hp.2.1 rfl ?_
      show jw_W (js_S n) _ md_61 48 [some (.inr (.inr p)), some (.inl x), some (.inl y), some (.inl z), some (.inl w), some (.inl i), some (.inr (.inl ((y * (σ (p + 4) i)) - ((σ (p + 2) i) * w)))), none] [.inr (.inr (p + 4)), .inr (.inl z)] σ _
      refine jw_W_n 1 (i' := 49) (ls' := [some (.inr (.inr p)), some (.inl x), some (.inl y), some (.inl z), some (.inl w), some (.inl i), some (.inr (.inl ((y * (σ (p + 4) i)) - ((σ (p + 2) i) * w)))), none]) (st' := [.inl i, .inr (.inr (p + 4)), .inr (.inl z)]) rfl ?_
      refine jw_W_ia rfl hp.2.2.2.2.2 (by omega) (by omega) (by omega) ?_
      show jw_W (js_S n) _ md_61 50 [some (.inr (.inr p)), some (.inl x), some (.inl y), some (.inl z), some (.inl w), some (.inl i), some (.inr (.inl ((y * (σ (p + 4) i)) - ((σ (p + 2) i) * w)))), none] [.inl (σ (p + 4) i), .inr (.inl z)] σ _
      refine jw_W_i2l rfl (by unfold jw_rg; omega) ?_
      refine jw_W_n 2 (i' := 53) (ls' := [some (.inr (.inr p)), some (.inl x), some (.inl y), some (.inl z), some (.inl w), some (.inl i), some (.inr (.inl ((y * (σ (p + 4) i)) - ((σ (p + 2) i) * w)))), none]) (st' := [.inr (.inr p), .inr (.inl (z * (σ (p + 4) i)))]) rfl ?_
      refine jw_W_gf rfl hp.2.1 rfl ?_
      show jw_W (js_S n) _ md_61 54 [some (.inr (.inr p)), some (.inl x), some (.inl y), some (.inl z), some (.inl w), some (.inl i), some (.inr (.inl ((y * (σ (p + 4) i)) - ((σ (p + 2) i) * w)))), none] [.inr (.inr (p + 3)), .inr (.inl (z * (σ (p + 4) i)))] σ _
      refine jw_W_n 1 (i' := 55) (ls' := [some (.inr (.inr p)), some (.inl x), some (.inl y), some (.inl z), some (.inl w), some (.inl i), some (.inr (.inl ((y * (σ (p + 4) i)) - ((σ (p + 2) i) * w)))), none]) (st' := [.inl i, .inr (.inr (p + 3)), .inr (.inl (z * (σ (p + 4) i)))]) rfl ?_
      refine jw_W_ia rfl hp.2.2.2.2.1 (by omega) (by omega) (by omega) ?_
      show jw_W (js_S n) _ md_61 56 [some (.inr (.inr p)), some (.inl x), some (.inl y), some (.inl z), some (.inl w), some (.inl i), some (.inr (.inl ((y * (σ (p + 4) i)) - ((σ (p + 2) i) * w)))), none] [.inl (σ (p + 3) i), .inr (.inl (z * (σ (p + 4) i)))] σ _
      refine jw_W_i2l rfl (by unfold jw_rg; omega) ?_
      refine jw_W_n 1 (i' := 58) (ls' := [some (.inr (.inr p)), some (.inl x), some (.inl y), some (.inl z), some (.inl w), some (.inl i), some (.inr (.inl ((y * (σ (p + 4) i)) - ((σ (p + 2) i) * w)))), none]) (st' := [.inl w, .inr (.inl (σ (p + 3) i)), .inr (.inl (z * (σ (p + 4) i)))]) rfl ?_
      refine jw_W_i2l rfl (by unfold jw_rg; omega) ?_
      refine jw_W_n 5 (i' := 64) (ls' := [some (.inr (.inr p)), some (.inl x), some (.inl y), some (.inl z), some (.inl w), some (.inl i), some (.inr (.inl ((z * (σ (p + 4) i)) - ((σ (p + 3) i) * w)))), none]) (st' := [.inr (.inl 0), .inr (.inl ((z * (σ (p + 4) i)) - ((σ (p + 3) i) * w)))]) rfl ?_
      refine jw_W_lc rfl rfl (by unfold jw_rgl; omega) (by unfold jw_rgl; omega) (fun hc7 => ?_) (fun hc7 => ?_)
      · have hc7 : ((z * (σ (p + 4) i)) - ((σ (p + 3) i) * w)) ≥ 0 := hc7
        refine jw_W_n 1 (i' := 69) (ls' := [some (.inr (.inr p)), some (.inl x), some (.inl y), some (.inl z), some (.inl w), some (.inl i), some (.inr (.inl ((z * (σ (p + 4) i)) - ((σ (p + 3) i) * w)))), none]) (st' := [.inl 0]) rfl ?_
        refine jw_W_ir rfl ?_
        refine .inr ⟨rfl, rfl, fun hh => ?_⟩
        have hh := (ge_lt_iff _ _).mp hh
        simp only [jx_pt] at hh
        omega
      · have hc7 : ¬ (((z * (σ (p + 4) i)) - ((σ (p + 3) i) * w)) ≥ 0) := hc7
        refine jw_W_n 2 (i' := 69) (ls' := [some (.inr (.inr p)), some (.inl x), some (.inl y), some (.inl z), some (.inl w), some (.inl i), some (.inr (.inl ((z * (σ (p + 4) i)) - ((σ (p + 3) i) * w)))), none]) (st' := [.inl 1]) rfl ?_
        refine jw_W_ir rfl ?_
        refine .inl ⟨rfl, rfl, (ge_lt_iff _ _).mpr ?_⟩
        simp only [jx_pt]
        omega

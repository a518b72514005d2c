/-! ===== chosen: rounding down, what letters stand for ===== -/
theorem jq_xor_neg {x y : Int} (hx : jw_rg x) (hy : 0 ≤ y ∧ y ≤ 2147483647) : jw_xor x y < 0 ↔ x < 0 := by
  have ex : (Int32.ofInt x).toInt = x := Int32.toInt_ofInt_of_le (by unfold jw_rg at hx; omega) (by unfold jw_rg at hx; omega)
  have ey : (Int32.ofInt y).toInt = y := Int32.toInt_ofInt_of_le (by omega) (by omega)
  have k : ∀ z : Int32, z.toBitVec.msb = decide (z.toInt < 0) := fun z => BitVec.msb_eq_toInt
  have h : (Int32.ofInt x ^^^ Int32.ofInt y).toBitVec.msb = xor (Int32.ofInt x).toBitVec.msb (Int32.ofInt y).toBitVec.msb := by
    rw [Int32.toBitVec_xor, BitVec.msb_xor]
  rw [k, k, k, ex, ey, decide_eq_false (show ¬ y < 0 by omega), Bool.xor_false] at h
  unfold jw_xor
  exact decide_eq_decide.mp h
theorem jq_td {x y : Int} (hy : 0 < y) : x.tdiv y = x / y + (if 0 ≤ x ∨ y ∣ x then 0 else 1) := by
  rw [Int.tdiv_eq_ediv, Int.sign_eq_one_of_pos hy]
theorem jq_tm {x y : Int} (hy : 0 < y) : (y ∣ x ↔ x.tdiv y * y = x) := by
  constructor
  · intro h
    exact Int.tdiv_mul_cancel h
  · intro h
    exact ⟨x.tdiv y, by rw [Int.mul_comm]; exact h.symm⟩
theorem jq_dn {x y : Int} (hy : 0 < y) : -((-x + y - 1) / y) = x / y := by
  have h1 := Int.mul_ediv_add_emod x y
  have h2 := Int.emod_nonneg x (show y ≠ 0 by omega)
  have h3 := Int.emod_lt_of_pos x hy
  have h4 := ((Int.ediv_emod_unique (a := -x + y - 1) (q := -(x / y)) (r := y - 1 - x % y) hy).mpr ⟨by rw [Int.mul_neg]; omega, by omega, by omega⟩).1
  rw [h4, Int.neg_neg]
theorem jq_bd {x y : Int} (hy : 0 < y) (hx : -100000 ≤ x ∧ x ≤ 100000) : -100000 ≤ x / y ∧ x / y ≤ 100000 := by
  have h1 := Int.mul_ediv_add_emod x y
  have h2 := Int.emod_nonneg x (show y ≠ 0 by omega)
  have h3 := Int.emod_lt_of_pos x hy
  constructor
  · refine Int.le_ediv_of_mul_le hy ?_
    have : 100000 * 1 ≤ 100000 * y := Int.mul_le_mul_of_nonneg_left (by omega) (by omega)
    omega
  · by_cases h : 0 ≤ x
    · have := Int.ediv_le_self y h
      omega
    · have := Int.ediv_neg_of_neg_of_pos (show x < 0 by omega) hy
      omega
theorem jq_floorDiv {n : Nat} {σ : jw_H} {x y : Int} (hx : -100000 ≤ x ∧ x ≤ 100000) (hy : 0 < y ∧ y ≤ 100000) : jw_T (js_S n) 1 362 [.inl x, .inl y] σ (fun r σ' => r = some (.inl (x / y)) ∧ σ' = σ) := by
  refine jw_T_of (D := 0) (M := mm_362) rfl (Nat.le_of_ble_eq_true rfl) (ls0 := [some (.inl x), some (.inl y), none]) rfl ?_ (by rintro _ _ ⟨rfl, -⟩; rfl)
  have rx : jw_rg x := by unfold jw_rg; omega
  have hxr := jq_xor_neg rx (y := y) (by omega)
  have hxg : jw_rg (jw_xor x y) := by
    unfold jw_xor jw_rg
    exact ⟨Int32.le_toInt _, by have := Int32.toInt_lt (Int32.ofInt x ^^^ Int32.ofInt y); omega⟩
  unfold jw_rg at hxg
  have htd := jq_td (x := x) hy.1
  have htm := jq_tm (x := x) hy.1
  have hbd := jq_bd (x := x) hy.1 hx
  have hpr : jw_rg (x.tdiv y * y) := by
    have h1 : x.tdiv y * y = x - x.tmod y := by
      have := Int.mul_tdiv_add_tmod x y
      rw [Int.mul_comm]
      omega
    rw [h1]
    have h2 := Int.tmod_lt_of_pos x hy.1
    have h3 : -y < x.tmod y := Int.neg_lt_of_neg_lt (by have := Int.tmod_lt_of_pos (-x) hy.1; rw [Int.neg_tmod] at this; exact this)
    unfold jw_rg
    omega
  unfold jw_rg at hpr
  have hsp : (0 ≤ x ∨ x.tdiv y * y = x) ∧ x.tdiv y = x / y ∨ (¬ (0 ≤ x ∨ x.tdiv y * y = x) ∧ x.tdiv y = x / y + 1) := by
    by_cases h : 0 ≤ x ∨ y ∣ x
    · rw [if_pos h] at htd
      exact .inl ⟨h.elim .inl (fun w => .inr (htm.mp w)), by omega⟩
    · rw [if_neg h] at htd
      exact .inr ⟨fun w => h (w.elim .inl (fun w => .inr (htm.mpr w))), htd⟩
  clear htd htm
  refine jw_W_n 2 (i' := 2) (ls' := [some (.inl x), some (.inl y), none]) (st' := [.inl y, .inl x]) rfl ?_
  refine jw_W_idiv rfl (by unfold jw_rg; omega) (by omega) ?_
  rw [jn_tdiv rx (by unfold jw_rg; omega) (by omega)]
  refine jw_W_n 4 (i' := 7) (ls' := [some (.inl x), some (.inl y), some (.inl (x.tdiv y))]) (st' := [.inl (jw_xor x y)]) rfl ?_
  refine jw_W_if rfl (by unfold jw_rg; omega) (fun hc1 => ?_) (fun hc1 => ?_)
  · have hc1 : (jw_xor x y) ≥ 0 := hc1
    refine jw_W_n 1 (i' := 18) (ls' := [some (.inl x), some (.inl y), some (.inl (x.tdiv y))]) (st' := [.inl (x.tdiv y)]) rfl ?_
    refine jw_W_ir rfl ?_
    exact ⟨congrArg (fun z => some (Sum.inl z)) (by omega), rfl⟩
  · have hc1 : ¬ ((jw_xor x y) ≥ 0) := hc1
    refine jw_W_n 4 (i' := 12) (ls' := [some (.inl x), some (.inl y), some (.inl (x.tdiv y))]) (st' := [.inl x, .inl ((x.tdiv y) * y)]) rfl ?_
    refine jw_W_ic rfl (by unfold jw_rg; omega) (by unfold jw_rg; omega) (fun hc2 => ?_) (fun hc2 => ?_)
    · have hc2 : ((x.tdiv y) * y) = x := hc2
      refine jw_W_n 1 (i' := 18) (ls' := [some (.inl x), some (.inl y), some (.inl (x.tdiv y))]) (st' := [.inl (x.tdiv y)]) rfl ?_
      refine jw_W_ir rfl ?_
      exact ⟨congrArg (fun z => some (Sum.inl z)) (by omega), rfl⟩
    · have hc2 : ¬ (((x.tdiv y) * y) = x) := hc2
      refine jw_W_n 3 (i' := 16) (ls' := [some (.inl x), some (.inl y), some (.inl (x.tdiv y))]) (st' := [.inl (x.tdiv y - 1)]) rfl ?_
      refine jw_W_ir rfl ?_
      exact ⟨congrArg (fun z => some (Sum.inl z)) (by omega), rfl⟩
theorem jq_downTo {n : Nat} {σ : jw_H} {x y : Int} (hx : -100000 ≤ x ∧ x ≤ 100000) (hy : 0 < y ∧ y ≤ 100000) : jw_T (js_S n) 1 324 [.inr (.inl x), .inr (.inl y)] σ (fun r σ' => r = some (.inr (.inl (x / y))) ∧ σ' = σ) := by
  refine jw_T_of (D := 0) (M := mm_324) rfl (Nat.le_of_ble_eq_true rfl) (ls0 := [some (.inr (.inl x)), none, some (.inr (.inl y)), none]) rfl ?_ (by rintro _ _ ⟨rfl, -⟩; rfl)
  refine jw_W_n 2 (i' := 2) (ls' := [some (.inr (.inl x)), none, some (.inr (.inl y)), none]) (st' := [.inr (.inl 0), .inr (.inl x)]) rfl ?_
  refine jw_W_lc rfl rfl (by unfold jw_rgl; omega) (by unfold jw_rgl; omega) (fun hc1 => ?_) (fun hc1 => ?_)
  · have hc1 : x < 0 := hc1
    refine jw_W_n 7 (i' := 15) (ls' := [some (.inr (.inl x)), none, some (.inr (.inl y)), none]) (st' := [.inr (.inl y), .inr (.inl (((-x) + y) - 1))]) rfl ?_
    refine jw_W_ldiv rfl (by unfold jw_rgl; omega) (by omega) ?_
    rw [jn_ldv (by omega) (by omega) (by omega) (by omega)]
    refine jw_W_n 1 (i' := 17) (ls' := [some (.inr (.inl x)), none, some (.inr (.inl y)), none]) (st' := [.inr (.inl ((-((-x + y - 1) / y))))]) rfl ?_
    refine jw_W_lr rfl ?_
    exact ⟨by rw [jq_dn hy.1], rfl⟩
  · have hc1 : ¬ (x < 0) := hc1
    refine jw_W_n 2 (i' := 6) (ls' := [some (.inr (.inl x)), none, some (.inr (.inl y)), none]) (st' := [.inr (.inl y), .inr (.inl x)]) rfl ?_
    refine jw_W_ldiv rfl (by unfold jw_rgl; omega) (by omega) ?_
    rw [jn_ldv (by omega) (by omega) (by omega) (by omega)]
    refine jw_W_n 1 (i' := 17) (ls' := [some (.inr (.inl x)), none, some (.inr (.inl y)), none]) (st' := [.inr (.inl (x / y))]) rfl ?_
    refine jw_W_lr rfl ?_
    exact ⟨rfl, rfl⟩
/-- what the letters of a law stand for at a corner -/
noncomputable def jq_fa (σ : jw_H) (i : Int) (j : Int) : Int := if j = 0 then i else if j = 4 then jx_cn (fun k => jb_in (σ 136 i) k.toNat) 20 else if j = 5 then jx_cn (fun c => jm_nx σ 137 i c) (σ 103 56).toNat else if j = 6 then jx_cn (fun c => jm_nx σ 137 i c ∧ jm_good σ c) (σ 103 56).toNat else if j - 1 < σ 103 4 then ge_f (jm_W σ (j - 1)) (jm_ct σ i) / (σ 135 i) else 0
theorem jq_fa_me {σ0 σ : jw_H} (h : ∀ c, (c = 103 ∨ c = 104 ∨ (132 ≤ c ∧ c ≤ 137)) → c ≠ 103 → σ c = σ0 c) (h4 : σ 103 4 = σ0 103 4) (h56 : σ 103 56 = σ0 103 56) (h57 : σ 103 57 = σ0 103 57) (i j : Int) : jq_fa σ i j = jq_fa σ0 i j := by
  unfold jq_fa jm_nx jm_good jm_W jm_ct
  rw [h4, h56, h57, h 104 (by omega) (by omega), h 132 (by omega) (by omega), h 133 (by omega) (by omega), h 134 (by omega) (by omega), h 135 (by omega) (by omega), h 136 (by omega) (by omega), h 137 (by omega) (by omega)]
/-- the choice: among so many corners, which and how much it is worth -/
noncomputable def jq_ch (σ : jw_H) (L : List jl_Q) : Nat → Int × Int
  | 0 => (-100000, -100000)
  | k + 1 => @ite _ (jm_good σ (k : Int) ∧ (jl_do (jq_fa σ (k : Int)) L (0, 0, 0)).2.1 ≠ 1 ∧ (jq_ch σ L k).2 < (jl_do (jq_fa σ (k : Int)) L (0, 0, 0)).1) (Classical.propDecidable _) ((k : Int), (jl_do (jq_fa σ (k : Int)) L (0, 0, 0)).1) (jq_ch σ L k)
theorem jq_ch_y {σ : jw_H} {L : List jl_Q} {i : Int} (i0 : 0 ≤ i) (h : jm_good σ i ∧ (jl_do (jq_fa σ i) L (0, 0, 0)).2.1 ≠ 1 ∧ (jq_ch σ L i.toNat).2 < (jl_do (jq_fa σ i) L (0, 0, 0)).1) : jq_ch σ L (i + 1).toNat = (i, (jl_do (jq_fa σ i) L (0, 0, 0)).1) := by
  rw [show (i + 1).toNat = i.toNat + 1 by omega]
  have e : ((i.toNat : Nat) : Int) = i := Int.toNat_of_nonneg i0
  have k := @if_pos (jm_good σ ((i.toNat : Nat) : Int) ∧ (jl_do (jq_fa σ ((i.toNat : Nat) : Int)) L (0, 0, 0)).2.1 ≠ 1 ∧ (jq_ch σ L i.toNat).2 < (jl_do (jq_fa σ ((i.toNat : Nat) : Int)) L (0, 0, 0)).1) (Classical.propDecidable _) (by rw [e]; exact h) (Int × Int) ((((i.toNat : Nat) : Int), (jl_do (jq_fa σ ((i.toNat : Nat) : Int)) L (0, 0, 0)).1)) (jq_ch σ L i.toNat)
  rw [e] at k
  refine Eq.trans ?_ k
  show jq_ch σ L (i.toNat + 1) = _
  rw [jq_ch, e]
theorem jq_ch_n {σ : jw_H} {L : List jl_Q} {i : Int} (i0 : 0 ≤ i) (h : ¬ (jm_good σ i ∧ (jl_do (jq_fa σ i) L (0, 0, 0)).2.1 ≠ 1 ∧ (jq_ch σ L i.toNat).2 < (jl_do (jq_fa σ i) L (0, 0, 0)).1)) : jq_ch σ L (i + 1).toNat = jq_ch σ L i.toNat := by
  rw [show (i + 1).toNat = i.toNat + 1 by omega, jq_ch, Int.toNat_of_nonneg i0]
  exact @if_neg _ (Classical.propDecidable _) h _ _ _
theorem jq_do_rg (e : Int → Int) : ∀ (L : List jl_Q) {w : Int × Int × Int}, (-9999 ≤ w.1 ∧ w.1 ≤ 9999) → -9999 ≤ (jl_do e L w).1 ∧ (jl_do e L w).1 ≤ 9999
  | [], w, h => h
  | q :: L, w, h => by
    rw [jl_do_c]
    refine jq_do_rg e L ?_
    by_cases c1 : jl_rt e q.2.2 = 1
    · by_cases c2 : q.1 = 120
      · rw [jl_ef_x c1 c2]
        exact h
      · rw [jl_ef_v c1 c2]
        split
        · exact jl_cl_rg _
        · exact h
    · rw [jl_ef_no c1]
      exact h
theorem jq_ch_rg (σ : jw_H) (L : List jl_Q) : ∀ k : Nat, (jq_ch σ L k = (-100000, -100000)) ∨ ((0 ≤ (jq_ch σ L k).1 ∧ (jq_ch σ L k).1 < (k : Int)) ∧ -9999 ≤ (jq_ch σ L k).2 ∧ (jq_ch σ L k).2 ≤ 9999)
  | 0 => .inl rfl
  | k + 1 => by
    have ih := jq_ch_rg σ L k
    rw [jq_ch]
    by_cases h : (jm_good σ (k : Int) ∧ (jl_do (jq_fa σ (k : Int)) L (0, 0, 0)).2.1 ≠ 1 ∧ (jq_ch σ L k).2 < (jl_do (jq_fa σ (k : Int)) L (0, 0, 0)).1)
    · rw [@if_pos _ (Classical.propDecidable _) h]
      have := jq_do_rg (jq_fa σ (k : Int)) L (w := (0, 0, 0)) (by show -9999 ≤ (0 : Int) ∧ (0 : Int) ≤ 9999; omega)
      exact .inr ⟨by show 0 ≤ (k : Int) ∧ (k : Int) < ((k + 1 : Nat) : Int); omega, this⟩
    · rw [@if_neg _ (Classical.propDecidable _) h]
      exact ih.elim .inl (fun w => .inr ⟨by omega, w.2⟩)
/-- the answers of chosen -/
noncomputable def jq_cha (σ : jw_H) (L : List jl_Q) (j : Int) : Int := if j = 0 then (jq_ch σ L (σ 103 56).toNat).1 else if j = 1 then (jq_ch σ L (σ 103 56).toNat).2 else -100001
theorem jq_do_fe {e e' : Int → Int} (h : ∀ j, e j = e' j) (L : List jl_Q) (w : Int × Int × Int) : jl_do e L w = jl_do e' L w := by
  rw [show e = e' from funext h]
theorem jq_fa_rg {σ : jw_H} {C : List (ge_R × Int)} (hKN : jm_KN σ C) {i : Int} (i0 : 0 ≤ i) (i1 : i < σ 103 56) : ∀ j, 0 ≤ j → j < 7 → jw_rg (jq_fa σ i j) := by
  intro j j0 j7
  have hcb := (jm_kw_cbd hKN.1).2 σ (jm_fk_rf σ)
  have hcn := hcb.1
  have hPm := hKN.1.1
  unfold jq_fa jw_rg
  by_cases c0 : j = 0
  · rw [if_pos c0]
    omega
  · rw [if_neg c0]
    by_cases c4 : j = 4
    · rw [if_pos c4]
      have := jx_cn_le (fun k => jb_in (σ 136 i) k.toNat) 20
      omega
    · rw [if_neg c4]
      by_cases c5 : j = 5
      · rw [if_pos c5]
        have := jx_cn_le (fun c => jm_nx σ 137 i c) (σ 103 56).toNat
        omega
      · rw [if_neg c5]
        by_cases c6 : j = 6
        · rw [if_pos c6]
          have := jx_cn_le (fun c => jm_nx σ 137 i c ∧ jm_good σ c) (σ 103 56).toNat
          omega
        · rw [if_neg c6]
          by_cases cw : j - 1 < σ 103 4
          · rw [if_pos cw]
            have hb := jm_f_bd (jm_W_sm hPm (k := j - 1) (by omega) cw) (hcb.2 i i0 i1).1
            have := jq_bd (x := ge_f (jm_W σ (j - 1)) (jm_ct σ i)) (jm_cw hcb i0 i1) (by omega)
            omega
          · rw [if_neg cw]
            omega

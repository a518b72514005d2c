/-! ===== counting; answers of one corner ===== -/
noncomputable def jx_b (P : Prop) : Int := @ite Int P (Classical.propDecidable P) 1 0
theorem jx_b_1 {P : Prop} (h : P) : jx_b P = 1 := by
  unfold jx_b
  exact if_pos h
theorem jx_b_0 {P : Prop} (h : ¬ P) : jx_b P = 0 := by
  unfold jx_b
  exact if_neg h
theorem jx_b_iff {P Q : Prop} (h : P ↔ Q) : jx_b P = jx_b Q := by rw [propext h]
theorem jx_b_01 (P : Prop) : jx_b P = 0 ∨ jx_b P = 1 := by
  by_cases h : P
  · exact .inr (jx_b_1 h)
  · exact .inl (jx_b_0 h)
/-- how many of the first ones -/
noncomputable def jx_cn (P : Int → Prop) : Nat → Int
  | 0 => 0
  | k + 1 => jx_cn P k + jx_b (P (k : Int))
theorem jx_cn_iff {P Q : Int → Prop} : ∀ {m : Nat}, (∀ k : Int, 0 ≤ k → k < m → (P k ↔ Q k)) → jx_cn P m = jx_cn Q m
  | 0, _ => rfl
  | m + 1, h => by
    unfold jx_cn
    rw [jx_cn_iff (m := m) (fun k h0 h1 => h k h0 (by omega)), jx_b_iff (h (m : Int) (by omega) (by omega))]
theorem jx_cn_le (P : Int → Prop) : ∀ m : Nat, 0 ≤ jx_cn P m ∧ jx_cn P m ≤ m
  | 0 => by
    unfold jx_cn
    omega
  | m + 1 => by
    have := jx_cn_le P m
    have h := jx_b_01 (P (m : Int))
    unfold jx_cn
    omega
theorem jx_cn_yes {P : Int → Prop} {m j : Int} (j0 : 0 ≤ j) (h : m = jx_cn P j.toNat) (hp : P j) : m + 1 = jx_cn P (j + 1).toNat := by
  rw [show (j + 1).toNat = j.toNat + 1 by omega]
  unfold jx_cn
  rw [Int.toNat_of_nonneg j0, jx_b_1 hp, h]
theorem jx_cn_no {P : Int → Prop} {m j : Int} (j0 : 0 ≤ j) (h : m = jx_cn P j.toNat) (hp : ¬ P j) : m = jx_cn P (j + 1).toNat := by
  rw [show (j + 1).toNat = j.toNat + 1 by omega]
  unfold jx_cn
  rw [Int.toNat_of_nonneg j0, jx_b_0 hp, Int.add_zero, h]
theorem jx_cn_more {P : Int → Prop} {a : Nat} : ∀ {b : Nat}, a ≤ b → (∀ k : Int, a ≤ k → k < b → ¬ P k) → jx_cn P b = jx_cn P a
  | 0, h, _ => by rw [show a = 0 by omega]
  | b + 1, h, hn => by
    by_cases e : a = b + 1
    · rw [e]
    · have h1 : jx_cn P (b + 1) = jx_cn P b + jx_b (P (b : Int)) := rfl
      rw [h1, jx_b_0 (hn (b : Int) (by omega) (by omega)), Int.add_zero]
      exact jx_cn_more (by omega) (fun k h0 h1 => hn k h0 (by omega))
/-- one taken out -/
theorem jx_cn_out {P Q : Int → Prop} {b : Int} (hb : P b) : ∀ {m : Nat}, 0 ≤ b → (∀ k : Int, 0 ≤ k → (Q k ↔ P k ∧ k ≠ b)) → jx_cn P m = jx_cn Q m + if b < m then 1 else 0
  | 0, b0, h => by
    rw [if_neg (by omega)]
    rfl
  | m + 1, b0, h => by
    unfold jx_cn
    rw [jx_cn_out hb b0 h (m := m)]
    by_cases e : (m : Int) = b
    · have h1 : jx_b (P (m : Int)) = 1 := jx_b_1 (by rw [e]; exact hb)
      have h2 : jx_b (Q (m : Int)) = 0 := jx_b_0 (fun hh => ((h _ (by omega)).mp hh).2 e)
      rw [h1, h2, if_neg (by omega), if_pos (by omega)]
    · have h1 : jx_b (Q (m : Int)) = jx_b (P (m : Int)) := jx_b_iff ((h _ (by omega)).trans ⟨fun hh => hh.1, fun hh => ⟨hh, e⟩⟩)
      rw [h1]
      by_cases e2 : b < (m : Int)
      · rw [if_pos e2, if_pos (by omega)]
        omega
      · rw [if_neg e2, if_neg (by omega)]
        omega
/-- the lowest bit is taken out -/
theorem jx_low : ∀ s : Nat, 0 < s → ∃ b, s.testBit b = true ∧ ∀ i, (s &&& (s - 1)).testBit i = (s.testBit i && decide (i ≠ b)) := by
  intro s
  induction s using Nat.strongRecOn with
  | ind s ih =>
    intro hs
    by_cases ho : s % 2 = 1
    · refine ⟨0, by rw [Nat.testBit_zero]; simp [ho], fun i => ?_⟩
      rw [Nat.testBit_and]
      cases i with
      | zero =>
        rw [Nat.testBit_zero, Nat.testBit_zero]
        have : (s - 1) % 2 = 0 := by omega
        simp [this]
      | succ i =>
        rw [Nat.testBit_succ, Nat.testBit_succ, show (s - 1) / 2 = s / 2 by omega]
        simp
    · obtain ⟨b, h1, h2⟩ := ih (s / 2) (by omega) (by omega)
      refine ⟨b + 1, by rw [Nat.testBit_succ]; exact h1, fun i => ?_⟩
      rw [Nat.testBit_and]
      cases i with
      | zero =>
        rw [Nat.testBit_zero, Nat.testBit_zero]
        have : s % 2 = 0 := by omega
        simp [this]
      | succ i =>
        have h3 := h2 i
        rw [Nat.testBit_and] at h3
        rw [Nat.testBit_succ, Nat.testBit_succ, show (s - 1) / 2 = s / 2 - 1 by omega, h3]
        simp
theorem jx_low2 {s : Int} (s0 : 0 < s) (s1 : s ≤ 1048575) : ∃ b : Int, 0 ≤ b ∧ b < 20 ∧ (0 ≤ jw_and s (s - 1) ∧ jw_and s (s - 1) < s) ∧ jb_in s b.toNat ∧ ∀ k : Int, 0 ≤ k → (jb_in (jw_and s (s - 1)) k.toNat ↔ jb_in s k.toNat ∧ k ≠ b) := by
  obtain ⟨b, h1, h2⟩ := jx_low s.toNat (by omega)
  have e := jb_and (a := s) (b := s - 1) (by omega) (by omega) (by omega) (by omega)
  rw [show (s - 1).toNat = s.toNat - 1 by omega] at e
  have hle : s.toNat &&& (s.toNat - 1) ≤ s.toNat - 1 := Nat.and_le_right
  have hb : b < 20 := by
    by_cases hb : b < 20
    · exact hb
    · exact absurd h1 (jx_big ⟨by omega, s1⟩ (by omega))
  refine ⟨(b : Int), by omega, by omega, by rw [e]; omega, h1, fun k k0 => ?_⟩
  unfold jb_in
  rw [e, Int.toNat_natCast, h2, Bool.and_eq_true, decide_eq_true_eq]
  refine and_congr Iff.rfl ?_
  omega
theorem jx_cn_zero : jx_cn (fun k => jb_in 0 k.toNat) 20 = 0 := by
  have h : ∀ k : Int, 0 ≤ k → k < (20 : Nat) → (jb_in 0 k.toNat ↔ False) := fun k _ _ => ⟨fun hh => by simp [jb_in] at hh, False.elim⟩
  rw [jx_cn_iff h]
  have h2 : ∀ m : Nat, jx_cn (fun _ => False) m = 0 := fun m => by
    induction m with
    | zero => rfl
    | succ m ih =>
      unfold jx_cn
      rw [ih, jx_b_0 (fun h => h)]
      rfl
  exact h2 20
theorem jx_sizeOf_loop {n : Nat} {σ : jw_H} {x : Int} : ∀ (f : Nat) {s m : Int}, 0 ≤ s → s ≤ 1048575 → s < f → m + jx_cn (fun k => jb_in s k.toNat) 20 = jx_cn (fun k => jb_in x k.toNat) 20 → jw_W (js_S n) 0 md_180 4 [some (.inl x), some (.inl m), some (.inl s)] [] σ (fun r σ' => r = some (.inl (jx_cn (fun k => jb_in x k.toNat) 20)) ∧ σ' = σ)
  | 0, s, m, s0, s1, hf, H => absurd hf (by omega)
  | f + 1, s, m, s0, s1, hf, H => by
    refine jw_W_n 1 (i' := 5) (ls' := [some (.inl x), some (.inl m), some (.inl s)]) (st' := [.inl s]) rfl ?_
    refine jw_W_if rfl (by unfold jw_rg; omega) (fun hc1 => ?_) (fun hc1 => ?_)
    · have hc1 : s = 0 := hc1
      refine jw_W_n 1 (i' := 18) (ls' := [some (.inl x), some (.inl m), some (.inl s)]) (st' := [.inl m]) rfl ?_
      refine jw_W_ir rfl ?_
      have hz : s = 0 := by omega
      subst hz
      refine ⟨?_, rfl⟩
      rw [← H, jx_cn_zero, Int.add_zero]
    · have hc1 : ¬ (s = 0) := hc1
      refine jw_W_n 11 (i' := 4) (ls' := [some (.inl x), some (.inl (m + 1)), some (.inl (jw_and s (s - 1)))]) (st' := []) rfl ?_
      obtain ⟨b, b0, b1, b2, b3, b4⟩ := jx_low2 (s := s) (by omega) (by omega)
      have hc := jx_cn_out (P := fun k => jb_in s k.toNat) (Q := fun k => jb_in (jw_and s (s - 1)) k.toNat) (b := b) b3 (m := 20) b0 b4
      rw [if_pos (by omega)] at hc
      exact jx_sizeOf_loop f (by omega) (by omega) (by omega) (by omega)
theorem jx_sizeOf {n : Nat} {σ : jw_H} {x : Int} (x0 : 0 ≤ x) (x1 : x ≤ 1048575) : jw_T (js_S n) 1 180 [.inl x] σ (fun r σ' => r = some (.inl (jx_cn (fun k => jb_in x k.toNat) 20)) ∧ σ' = σ) := by
  refine jw_T_of (D := 0) (M := mm_180) rfl (Nat.le_of_ble_eq_true rfl) (ls0 := [some (.inl x), none, none]) rfl ?_ (by rintro _ _ ⟨rfl, -⟩; rfl)
  refine jw_W_n 4 (i' := 4) (ls' := [some (.inl x), some (.inl 0), some (.inl x)]) (st' := []) rfl ?_
  exact jx_sizeOf_loop (x.toNat + 1) x0 x1 (by omega) (by omega)
def jx_bc (x : Int) : Int := jw_and (((jw_and (((jw_and (x - (jw_and (jw_ushr x 1) 1431655765)) 858993459) + (jw_and (jw_ushr (x - (jw_and (jw_ushr x 1) 1431655765)) 2) 858993459)) + (jw_ushr ((jw_and (x - (jw_and (jw_ushr x 1) 1431655765)) 858993459) + (jw_and (jw_ushr (x - (jw_and (jw_ushr x 1) 1431655765)) 2) 858993459)) 4)) 252645135) + (jw_ushr (jw_and (((jw_and (x - (jw_and (jw_ushr x 1) 1431655765)) 858993459) + (jw_and (jw_ushr (x - (jw_and (jw_ushr x 1) 1431655765)) 2) 858993459)) + (jw_ushr ((jw_and (x - (jw_and (jw_ushr x 1) 1431655765)) 858993459) + (jw_and (jw_ushr (x - (jw_and (jw_ushr x 1) 1431655765)) 2) 858993459)) 4)) 252645135) 8)) + (jw_ushr ((jw_and (((jw_and (x - (jw_and (jw_ushr x 1) 1431655765)) 858993459) + (jw_and (jw_ushr (x - (jw_and (jw_ushr x 1) 1431655765)) 2) 858993459)) + (jw_ushr ((jw_and (x - (jw_and (jw_ushr x 1) 1431655765)) 858993459) + (jw_and (jw_ushr (x - (jw_and (jw_ushr x 1) 1431655765)) 2) 858993459)) 4)) 252645135) + (jw_ushr (jw_and (((jw_and (x - (jw_and (jw_ushr x 1) 1431655765)) 858993459) + (jw_and (jw_ushr (x - (jw_and (jw_ushr x 1) 1431655765)) 2) 858993459)) + (jw_ushr ((jw_and (x - (jw_and (jw_ushr x 1) 1431655765)) 858993459) + (jw_and (jw_ushr (x - (jw_and (jw_ushr x 1) 1431655765)) 2) 858993459)) 4)) 252645135) 8)) 16)) 63
def jx_pc (x : Int) : Nat → Int
  | 0 => 0
  | k + 1 => jx_pc x k + if x.toNat.testBit k then 1 else 0
theorem jx_pc_cn (x : Int) : ∀ m : Nat, jx_cn (fun k => jb_in x k.toNat) m = jx_pc x m
  | 0 => rfl
  | m + 1 => by
    unfold jx_cn jx_pc
    rw [jx_pc_cn x m]
    split
    · rename_i h
      rw [jx_b_1 (by unfold jb_in; rw [Int.toNat_natCast]; exact h)]
    · rename_i h
      rw [jx_b_0 (by unfold jb_in; rw [Int.toNat_natCast]; exact h)]
theorem jx_bc_ok {x : Int} (x0 : 0 ≤ x) (x1 : x ≤ 1023) : jx_bc x = jx_cn (fun k => jb_in x k.toNat) 20 := by
  rw [jx_pc_cn]
  have key : ∀ x : Fin 1024, jx_bc (x.val : Int) = jx_pc (x.val : Int) 20 := by decide +kernel
  have := key ⟨x.toNat, by omega⟩
  rw [Int.toNat_of_nonneg x0] at this
  exact this
theorem jx_bitCount {n : Nat} {σ : jw_H} {x : Int} (x0 : 0 ≤ x) (x1 : x ≤ 1023) : jw_T (js_S n) 1 338 [.inl x] σ (fun r σ' => r = some (.inl (jx_cn (fun k => jb_in x k.toNat) 20)) ∧ σ' = σ) := by
  refine jw_T_of (D := 0) (M := mm_338) rfl (Nat.le_of_ble_eq_true rfl) (ls0 := [some (.inl x)]) rfl ?_ (by rintro _ _ ⟨rfl, -⟩; rfl)
  refine jw_W_n 4 (i' := 4) (ls' := [some (.inl x)]) (st' := [.inl (jw_ushr x 1), .inl x]) rfl ?_
  refine jw_W_ldw (z := 1431655765) rfl rfl ?_
  refine jw_W_n 4 (i' := 9) (ls' := [some (.inl (x - (jw_and (jw_ushr x 1) 1431655765)))]) (st' := [.inl (x - (jw_and (jw_ushr x 1) 1431655765))]) rfl ?_
  refine jw_W_ldw (z := 858993459) rfl rfl ?_
  refine jw_W_n 4 (i' := 14) (ls' := [some (.inl (x - (jw_and (jw_ushr x 1) 1431655765)))]) (st' := [.inl (jw_ushr (x - (jw_and (jw_ushr x 1) 1431655765)) 2), .inl (jw_and (x - (jw_and (jw_ushr x 1) 1431655765)) 858993459)]) rfl ?_
  refine jw_W_ldw (z := 858993459) rfl rfl ?_
  refine jw_W_n 8 (i' := 23) (ls' := [some (.inl ((jw_and (x - (jw_and (jw_ushr x 1) 1431655765)) 858993459) + (jw_and (jw_ushr (x - (jw_and (jw_ushr x 1) 1431655765)) 2) 858993459)))]) (st' := [.inl (((jw_and (x - (jw_and (jw_ushr x 1) 1431655765)) 858993459) + (jw_and (jw_ushr (x - (jw_and (jw_ushr x 1) 1431655765)) 2) 858993459)) + (jw_ushr ((jw_and (x - (jw_and (jw_ushr x 1) 1431655765)) 858993459) + (jw_and (jw_ushr (x - (jw_and (jw_ushr x 1) 1431655765)) 2) 858993459)) 4))]) rfl ?_
  refine jw_W_ldw (z := 252645135) rfl rfl ?_
  refine jw_W_n 17 (i' := 41) (ls' := [some (.inl (((jw_and (((jw_and (x - (jw_and (jw_ushr x 1) 1431655765)) 858993459) + (jw_and (jw_ushr (x - (jw_and (jw_ushr x 1) 1431655765)) 2) 858993459)) + (jw_ushr ((jw_and (x - (jw_and (jw_ushr x 1) 1431655765)) 858993459) + (jw_and (jw_ushr (x - (jw_and (jw_ushr x 1) 1431655765)) 2) 858993459)) 4)) 252645135) + (jw_ushr (jw_and (((jw_and (x - (jw_and (jw_ushr x 1) 1431655765)) 858993459) + (jw_and (jw_ushr (x - (jw_and (jw_ushr x 1) 1431655765)) 2) 858993459)) + (jw_ushr ((jw_and (x - (jw_and (jw_ushr x 1) 1431655765)) 858993459) + (jw_and (jw_ushr (x - (jw_and (jw_ushr x 1) 1431655765)) 2) 858993459)) 4)) 252645135) 8)) + (jw_ushr ((jw_and (((jw_and (x - (jw_and (jw_ushr x 1) 1431655765)) 858993459) + (jw_and (jw_ushr (x - (jw_and (jw_ushr x 1) 1431655765)) 2) 858993459)) + (jw_ushr ((jw_and (x - (jw_and (jw_ushr x 1) 1431655765)) 858993459) + (jw_and (jw_ushr (x - (jw_and (jw_ushr x 1) 1431655765)) 2) 858993459)) 4)) 252645135) + (jw_ushr (jw_and (((jw_and (x - (jw_and (jw_ushr x 1) 1431655765)) 858993459) + (jw_and (jw_ushr (x - (jw_and (jw_ushr x 1) 1431655765)) 2) 858993459)) + (jw_ushr ((jw_and (x - (jw_and (jw_ushr x 1) 1431655765)) 858993459) + (jw_and (jw_ushr (x - (jw_and (jw_ushr x 1) 1431655765)) 2) 858993459)) 4)) 252645135) 8)) 16)))]) (st' := [.inl (jw_and (((jw_and (((jw_and (x - (jw_and (jw_ushr x 1) 1431655765)) 858993459) + (jw_and (jw_ushr (x - (jw_and (jw_ushr x 1) 1431655765)) 2) 858993459)) + (jw_ushr ((jw_and (x - (jw_and (jw_ushr x 1) 1431655765)) 858993459) + (jw_and (jw_ushr (x - (jw_and (jw_ushr x 1) 1431655765)) 2) 858993459)) 4)) 252645135) + (jw_ushr (jw_and (((jw_and (x - (jw_and (jw_ushr x 1) 1431655765)) 858993459) + (jw_and (jw_ushr (x - (jw_and (jw_ushr x 1) 1431655765)) 2) 858993459)) + (jw_ushr ((jw_and (x - (jw_and (jw_ushr x 1) 1431655765)) 858993459) + (jw_and (jw_ushr (x - (jw_and (jw_ushr x 1) 1431655765)) 2) 858993459)) 4)) 252645135) 8)) + (jw_ushr ((jw_and (((jw_and (x - (jw_and (jw_ushr x 1) 1431655765)) 858993459) + (jw_and (jw_ushr (x - (jw_and (jw_ushr x 1) 1431655765)) 2) 858993459)) + (jw_ushr ((jw_and (x - (jw_and (jw_ushr x 1) 1431655765)) 858993459) + (jw_and (jw_ushr (x - (jw_and (jw_ushr x 1) 1431655765)) 2) 858993459)) 4)) 252645135) + (jw_ushr (jw_and (((jw_and (x - (jw_and (jw_ushr x 1) 1431655765)) 858993459) + (jw_and (jw_ushr (x - (jw_and (jw_ushr x 1) 1431655765)) 2) 858993459)) + (jw_ushr ((jw_and (x - (jw_and (jw_ushr x 1) 1431655765)) 858993459) + (jw_and (jw_ushr (x - (jw_and (jw_ushr x 1) 1431655765)) 2) 858993459)) 4)) 252645135) 8)) 16)) 63)]) rfl ?_
  refine jw_W_ir rfl ?_
  refine ⟨?_, rfl⟩
  rw [show jw_and (((jw_and (((jw_and (x - (jw_and (jw_ushr x 1) 1431655765)) 858993459) + (jw_and (jw_ushr (x - (jw_and (jw_ushr x 1) 1431655765)) 2) 858993459)) + (jw_ushr ((jw_and (x - (jw_and (jw_ushr x 1) 1431655765)) 858993459) + (jw_and (jw_ushr (x - (jw_and (jw_ushr x 1) 1431655765)) 2) 858993459)) 4)) 252645135) + (jw_ushr (jw_and (((jw_and (x - (jw_and (jw_ushr x 1) 1431655765)) 858993459) + (jw_and (jw_ushr (x - (jw_and (jw_ushr x 1) 1431655765)) 2) 858993459)) + (jw_ushr ((jw_and (x - (jw_and (jw_ushr x 1) 1431655765)) 858993459) + (jw_and (jw_ushr (x - (jw_and (jw_ushr x 1) 1431655765)) 2) 858993459)) 4)) 252645135) 8)) + (jw_ushr ((jw_and (((jw_and (x - (jw_and (jw_ushr x 1) 1431655765)) 858993459) + (jw_and (jw_ushr (x - (jw_and (jw_ushr x 1) 1431655765)) 2) 858993459)) + (jw_ushr ((jw_and (x - (jw_and (jw_ushr x 1) 1431655765)) 858993459) + (jw_and (jw_ushr (x - (jw_and (jw_ushr x 1) 1431655765)) 2) 858993459)) 4)) 252645135) + (jw_ushr (jw_and (((jw_and (x - (jw_and (jw_ushr x 1) 1431655765)) 858993459) + (jw_and (jw_ushr (x - (jw_and (jw_ushr x 1) 1431655765)) 2) 858993459)) + (jw_ushr ((jw_and (x - (jw_and (jw_ushr x 1) 1431655765)) 858993459) + (jw_and (jw_ushr (x - (jw_and (jw_ushr x 1) 1431655765)) 2) 858993459)) 4)) 252645135) 8)) 16)) 63 = jx_bc x from rfl, jx_bc_ok x0 x1]

/-! ===== more rules ===== -/
theorem jw_W_i2l {S : List jw_S} {D : Nat} {cd : List xI} {i : Nat} {ls : jw_L} {st : List jw_V} {σ : jw_H} {Q : Option jw_V → jw_H → Prop} {pc n a : Nat} {tg : List Nat} {x : Int} (hq : cd[i]? = some (pc, .i2l, n, a, tg)) (hx : jw_rg x) (kk : jw_W S D cd (i + 1) ls (.inr (.inl x) :: st) σ Q) : jw_W S D cd i ls (.inl x :: st) σ Q := by
  refine jw_W_p (i' := i + 1) (ls' := ls) (st' := .inr (.inl x) :: st) hq ?_ kk
  simp only [jw_p, jw_il, jw_n_id hx]
theorem jw_up_eq (σ : jw_H) (o : Nat) (j v : Int) : jw_up σ o j v o j = v := if_pos ⟨rfl, rfl⟩
theorem jw_up_ne (σ : jw_H) {o o' : Nat} {j j' v : Int} (h : ¬ (o' = o ∧ j' = j)) : jw_up σ o j v o' j' = σ o' j' := if_neg h
theorem jm_gcd_le {a b B : Int} (ha : -B ≤ a ∧ a ≤ B) (hb : -B ≤ b ∧ b ≤ B) : ((Int.gcd a b : Nat) : Int) ≤ B := by
  by_cases h : a = 0
  · subst h
    rw [Int.gcd_zero_left]
    omega
  · have h1 : Int.gcd a b ≤ a.natAbs := Nat.gcd_le_left _ (by omega)
    omega

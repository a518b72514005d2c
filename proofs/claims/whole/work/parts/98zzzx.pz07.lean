/-! ===== the law, the class: a rule ===== -/
/-- a rule's text: fault, place behind, letter, codes of the value, codes of the condition -/
abbrev jl_Q : Type := Int × List (Int × Int) × List (Int × Int)
def jl_Vr (b : Int → Int) (m x i : Int) : jl_R := if x = 118 then jl_S b m 6 (i + 1) else (0, i + 1, [])
def jl_rl (b : Int → Int) (m c i : Int) : Int × Int × jl_Q :=
  if ¬ (jk_h b m i = 118 ∨ jk_h b m i = 120) then (-1000 * 1 - i, i, 0, [], [])
  else if 16 ≤ c then (-1000 * 4 - i, i, 0, [], [])
  else if (jl_Vr b m (jk_h b m i) i).1 ≠ 0 then ((jl_Vr b m (jk_h b m i) i).1, i, 0, [], [])
  else if jk_h b m (jl_Vr b m (jk_h b m i) i).2.1 ≠ 40 then (-1000 * 1 - (jl_Vr b m (jk_h b m i) i).2.1, i, 0, [], [])
  else if (jl_cnd b m (jl_T b m 5) ((jl_Vr b m (jk_h b m i) i).2.1 + 1)).1 ≠ 0 then ((jl_cnd b m (jl_T b m 5) ((jl_Vr b m (jk_h b m i) i).2.1 + 1)).1, i, 0, [], [])
  else if jk_h b m (jl_cnd b m (jl_T b m 5) ((jl_Vr b m (jk_h b m i) i).2.1 + 1)).2.1 ≠ 41 then (-1000 * 1 - (jl_cnd b m (jl_T b m 5) ((jl_Vr b m (jk_h b m i) i).2.1 + 1)).2.1, i, 0, [], [])
  else (0, (jl_cnd b m (jl_T b m 5) ((jl_Vr b m (jk_h b m i) i).2.1 + 1)).2.1 + 1, jk_h b m i, (jl_Vr b m (jk_h b m i) i).2.2, (jl_cnd b m (jl_T b m 5) ((jl_Vr b m (jk_h b m i) i).2.1 + 1)).2.2)
/-- what codes come to, 0 where something is refused -/
def jl_rt (e : Int → Int) (c : List (Int × Int)) : Int := match jl_run e c 0 [] with
  | some st => st.headD 0
  | none => 0
def jl_cl (v : Int) : Int := if -9999 < (if v < 9999 then v else 9999) then (if v < 9999 then v else 9999) else -9999
/-- what a rule does: worth, refused, worth found -/
def jl_ef (e : Int → Int) (q : jl_Q) (w : Int × Int × Int) : Int × Int × Int := if jl_rt e q.2.2 = 1 then (if q.1 = 120 then (w.1, 1, w.2.2) else if w.2.2 = 0 then (jl_cl (jl_rt e q.2.1), w.2.1, 1) else w) else w
theorem jl_rt_d {e : Int → Int} {c : List (Int × Int)} {d : Prop} {v : Int} (h : jl_val e c d v) (hd : d) : jl_rt e c = 0 := by
  have k := (h [] []).1 hd
  rw [List.append_nil] at k
  unfold jl_rt
  rw [k]
theorem jl_rt_v {e : Int → Int} {c : List (Int × Int)} {d : Prop} {v : Int} (h : jl_val e c d v) (hd : ¬ d) : jl_rt e c = v := by
  have k := (h [] []).2 hd
  rw [List.append_nil] at k
  unfold jl_rt
  rw [k]
  rfl
def jl_DR (σ σ' : jw_H) : Prop := (∀ c, c ≠ 42 → c ≠ 43 → σ' c = σ c) ∧ (∀ j, j ≠ 1 → j ≠ 2 → j ≠ 7 → j ≠ 8 → j ≠ 9 → σ' 42 j = σ 42 j) ∧ (σ 43 2 ≠ 0 → σ' 43 2 = σ 43 2 ∧ σ' 42 = σ 42) ∧ σ 43 0 ≤ σ' 43 0
theorem jl_DR_rf (σ : jw_H) : jl_DR σ σ := ⟨fun _ _ _ => rfl, fun _ _ _ _ _ _ => rfl, fun _ => ⟨rfl, rfl⟩, Int.le_refl _⟩
theorem jl_DR_tr {σ σ' σ'' : jw_H} (h : jl_DR σ σ') (k : jl_DR σ' σ'') : jl_DR σ σ'' := ⟨fun c h1 h2 => (k.1 c h1 h2).trans (h.1 c h1 h2), fun j h1 h2 h3 h4 h5 => (k.2.1 j h1 h2 h3 h4 h5).trans (h.2.1 j h1 h2 h3 h4 h5), fun hn => by
  have h1 := h.2.2.1 hn
  have k1 := k.2.2.1 (by rw [h1.1]; exact hn)
  exact ⟨k1.1.trans h1.1, k1.2.trans h1.2⟩, Int.le_trans h.2.2.2 k.2.2.2⟩
theorem jl_DR_E {b : Int → Int} {m : Int} {e : Int → Int} {σ σ' : jw_H} (h : jl_E b m e σ σ') : jl_DR σ σ' := ⟨h.2.1.1, fun j _ _ _ _ h9 => h.2.1.2.1 j h9, fun hn => ⟨h.2.1.2.2.1 hn, h.2.2⟩, h.2.1.2.2.2⟩
theorem jl_X_f {b : Int → Int} {m : Int} {e : Int → Int} {σ : jw_H} (h : jl_X b m e σ) {j v : Int} (hj : j ≠ 9) : jl_X b m e (jw_up σ 42 j v) := by
  obtain ⟨g1, h3, h4, h5, h6, h7, h8, h9⟩ := h
  have c : ∀ c, c ≠ 42 → jw_up σ 42 j v c = σ c := fun c hc => jw_up_out _ _ _ hc
  refine ⟨jl_tx_of g1 (by rw [c 43 (by omega)]) (by rw [c 43 (by omega)]) (by rw [c 43 (by omega)]; omega) (fun c' hc => c c' (by omega)), by rw [c 43 (by omega)]; exact h3, by rw [c 43 (by omega)]; exact h4, h5, by rw [c 43 (by omega)]; exact h6, by rw [jw_up_ne _ (by omega)]; exact h7, ?_, fun j j0 j1 => by rw [c 46 (by omega)]; exact h9 j j0 j1⟩
  unfold jl_st jk_sw at h8 ⊢
  rw [c 1 (by omega), c (1 + 1) (by omega)]
  exact h8
section JLRL
variable {b : Int → Int} {m c i : Int}
theorem jl_rl_1 (h : ¬ (jk_h b m i = 118 ∨ jk_h b m i = 120)) : jl_rl b m c i = (-1000 * 1 - i, i, 0, [], []) := if_pos h
theorem jl_rl_2 (h : jk_h b m i = 118 ∨ jk_h b m i = 120) (h2 : 16 ≤ c) : jl_rl b m c i = (-1000 * 4 - i, i, 0, [], []) := by
  unfold jl_rl
  rw [if_neg (not_not_intro h), if_pos h2]
variable {V C : jl_R}
theorem jl_rl_3 (h : jk_h b m i = 118 ∨ jk_h b m i = 120) (h2 : ¬ (16 ≤ c)) (hV : jl_Vr b m (jk_h b m i) i = V) (h3 : V.1 ≠ 0) : jl_rl b m c i = (V.1, i, 0, [], []) := by
  unfold jl_rl
  rw [hV, if_neg (not_not_intro h), if_neg h2, if_pos h3]
theorem jl_rl_4 (h : jk_h b m i = 118 ∨ jk_h b m i = 120) (h2 : ¬ (16 ≤ c)) (hV : jl_Vr b m (jk_h b m i) i = V) (h3 : V.1 = 0) (h4 : jk_h b m V.2.1 ≠ 40) : jl_rl b m c i = (-1000 * 1 - V.2.1, i, 0, [], []) := by
  unfold jl_rl
  rw [hV, if_neg (not_not_intro h), if_neg h2, if_neg (not_not_intro h3), if_pos h4]
theorem jl_rl_5 (h : jk_h b m i = 118 ∨ jk_h b m i = 120) (h2 : ¬ (16 ≤ c)) (hV : jl_Vr b m (jk_h b m i) i = V) (h3 : V.1 = 0) (h4 : jk_h b m V.2.1 = 40) (hC : jl_cnd b m (jl_T b m 5) (V.2.1 + 1) = C) (h5 : C.1 ≠ 0) : jl_rl b m c i = (C.1, i, 0, [], []) := by
  unfold jl_rl
  rw [hV, hC, if_neg (not_not_intro h), if_neg h2, if_neg (not_not_intro h3), if_neg (not_not_intro h4), if_pos h5]
theorem jl_rl_6 (h : jk_h b m i = 118 ∨ jk_h b m i = 120) (h2 : ¬ (16 ≤ c)) (hV : jl_Vr b m (jk_h b m i) i = V) (h3 : V.1 = 0) (h4 : jk_h b m V.2.1 = 40) (hC : jl_cnd b m (jl_T b m 5) (V.2.1 + 1) = C) (h5 : C.1 = 0) (h6 : jk_h b m C.2.1 ≠ 41) : jl_rl b m c i = (-1000 * 1 - C.2.1, i, 0, [], []) := by
  unfold jl_rl
  rw [hV, hC, if_neg (not_not_intro h), if_neg h2, if_neg (not_not_intro h3), if_neg (not_not_intro h4), if_neg (not_not_intro h5), if_pos h6]
theorem jl_rl_7 (h : jk_h b m i = 118 ∨ jk_h b m i = 120) (h2 : ¬ (16 ≤ c)) (hV : jl_Vr b m (jk_h b m i) i = V) (h3 : V.1 = 0) (h4 : jk_h b m V.2.1 = 40) (hC : jl_cnd b m (jl_T b m 5) (V.2.1 + 1) = C) (h5 : C.1 = 0) (h6 : jk_h b m C.2.1 = 41) : jl_rl b m c i = (0, C.2.1 + 1, jk_h b m i, V.2.2, C.2.2) := by
  unfold jl_rl
  rw [hV, hC, if_neg (not_not_intro h), if_neg h2, if_neg (not_not_intro h3), if_neg (not_not_intro h4), if_neg (not_not_intro h5), if_neg (not_not_intro h6)]
end JLRL
theorem jl_apply {n : Nat} {σ : jw_H} {x v : Int} (hx : jw_rg x) (hv : jw_rg v) (h8 : jw_rg (σ 42 8))  : jw_T (js_S n) 1 48 [.inr (.inr 42), .inl x, .inl v] σ (fun r σ' => r = none ∧ ((x = 120 ∧ σ' = jw_up σ 42 2 1) ∨ (x ≠ 120 ∧ σ 42 8 = 0 ∧ σ' = jw_up (jw_up σ 42 8 1) 42 1 (jl_cl v)) ∨ (x ≠ 120 ∧ σ 42 8 ≠ 0 ∧ σ' = σ))) := by
  refine jw_T_of (D := 0) (M := mm_48) rfl (Nat.le_of_ble_eq_true rfl) (ls0 := [some (.inr (.inr 42)), some (.inl x), some (.inl v)]) rfl ?_ (by rintro _ _ ⟨rfl, -⟩; rfl)
  have rx := hx
  have rv := hv
  have r8 := h8
  unfold jw_rg at rx rv r8
  refine jw_W_n 2 (i' := 2) (ls' := [some (.inr (.inr 42)), some (.inl x), some (.inl v)]) (st' := [.inl 120, .inl x]) rfl ?_
  refine jw_W_ic rfl (by unfold jw_rg; omega) (by unfold jw_rg; omega) (fun hc1 => ?_) (fun hc1 => ?_)
  · have hc1 : x ≠ 120 := hc1
    refine jw_W_n 1 (i' := 8) (ls' := [some (.inr (.inr 42)), some (.inl x), some (.inl v)]) (st' := [.inr (.inr 42)]) rfl ?_
    refine jw_W_gf rfl rfl rfl ?_
    show jw_W (js_S n) _ md_48 9 [some (.inr (.inr 42)), some (.inl x), some (.inl v)] [.inl (σ 42 8)] σ _
    refine jw_W_if rfl (by unfold jw_rg; omega) (fun hc2 => ?_) (fun hc2 => ?_)
    · have hc2 : (σ 42 8) ≠ 0 := hc2
      refine jw_W_re rfl ?_
      exact ⟨rfl, .inr (.inr ⟨by omega, by omega, rfl⟩)⟩
    · have hc2 : (σ 42 8) = 0 := Classical.not_not.mp hc2
      refine jw_W_n 2 (i' := 12) (ls' := [some (.inr (.inr 42)), some (.inl x), some (.inl v)]) (st' := [.inl 1, .inr (.inr 42)]) rfl ?_
      refine jw_W_pf (a := 1) rfl (by omega) rfl rfl rfl rfl rfl ?_
      refine jw_W_n 4 (i' := 17) (ls' := [some (.inr (.inr 42)), some (.inl x), some (.inl v)]) (st' := [.inl v, .inl 9999, .inl ((-9999)), .inr (.inr 42)]) rfl ?_
      refine jw_W_min rfl rfl (by unfold jw_rg; omega) (by unfold jw_rg; omega) (Nat.le_of_ble_eq_true rfl) ?_
      refine jw_W_max rfl rfl (by unfold jw_rg; omega) (by unfold jw_rg; omega) (Nat.le_of_ble_eq_true rfl) ?_
      refine jw_W_pf (a := if -9999 < if v < 9999 then v else 9999 then if v < 9999 then v else 9999 else -9999) rfl (by omega) rfl rfl rfl rfl rfl ?_
      refine jw_W_re rfl ?_
      exact ⟨rfl, .inr (.inl ⟨by omega, by omega, rfl⟩)⟩
  · have hc1 : x = 120 := Classical.not_not.mp hc1
    refine jw_W_n 2 (i' := 5) (ls' := [some (.inr (.inr 42)), some (.inl x), some (.inl v)]) (st' := [.inl 1, .inr (.inr 42)]) rfl ?_
    refine jw_W_pf (a := 1) rfl (by omega) rfl rfl rfl rfl rfl ?_
    refine jw_W_n 1 (i' := 20) (ls' := [some (.inr (.inr 42)), some (.inl x), some (.inl v)]) (st' := []) rfl ?_
    refine jw_W_re rfl ?_
    exact ⟨rfl, .inl ⟨by omega, rfl⟩⟩

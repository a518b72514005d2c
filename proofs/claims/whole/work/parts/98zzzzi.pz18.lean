/-! ===== the law's reader, the reference: rows, small methods ===== -/
def jo_wd (q : Int × Int) (p : Int) : Int := 1048576 * q.1 + (if q.1 = 11 ∨ q.1 = 12 then (if q.2 < 0 then 0 else p + 1 + q.2) else q.2)
/-- how many codes or ends what waits may leave yet -/
def jo_wt : jo_C → Nat
  | [] => 0
  | q :: W => (if q.1 = 11 ∨ q.1 = 12 then 0 else 1) + jo_wt W
/-- how many are open -/
def jo_op : jo_C → Nat
  | [] => 0
  | q :: W => (if q.1 = 10 ∨ q.1 = 13 ∨ q.1 = 14 then 1 else 0) + jo_op W
def jo_ws (σ : jw_H) (c : jo_C) : jo_C → Prop
  | [] => True
  | q :: W => (σ 109 (W.length : Int) = 1048576 * q.1 + q.2 ∧ (2 ≤ q.1 ∧ q.1 ≤ 14) ∧ (0 ≤ q.2 ∧ q.2 < 1048576) ∧ (q.1 = 11 ∨ q.1 = 12 → ∃ z, c[q.2.toNat]? = some z ∧ (z.1 = 11 ∨ z.1 = 12))) ∧ jo_ws σ c W
def jo_cr (σ : jw_H) (c : jo_C) : Prop := ∀ (t : Nat) (q : Int × Int), c[t]? = some q → σ 108 (t : Int) = jo_wd q (t : Int) ∧ (0 ≤ q.1 ∧ q.1 ≤ 12) ∧ (-1 ≤ q.2 ∧ q.2 ≤ 99999)
/-- only the reader's own places change -/
def jo_f (σ σ' : jw_H) : Prop := (∀ c, c ≠ 103 → c ≠ 108 → c ≠ 109 → σ' c = σ c) ∧ ∀ j, j ≠ 8 → j ≠ 10 → j ≠ 11 → j ≠ 12 → j ≠ 13 → j ≠ 14 → σ' 103 j = σ 103 j
theorem jo_f_rf (σ : jw_H) : jo_f σ σ := ⟨fun _ _ _ _ => rfl, fun _ _ _ _ _ _ _ => rfl⟩
theorem jo_f_tr {σ σ' σ'' : jw_H} (h : jo_f σ σ') (k : jo_f σ' σ'') : jo_f σ σ'' := ⟨fun c h1 h2 h3 => (k.1 c h1 h2 h3).trans (h.1 c h1 h2 h3), fun j h1 h2 h3 h4 h5 h6 => (k.2 j h1 h2 h3 h4 h5 h6).trans (h.2 j h1 h2 h3 h4 h5 h6)⟩
theorem jo_f_up {σ σ' : jw_H} {o : Nat} {j v : Int} (h : jo_f σ σ') (hj : (o = 103 ∧ (j = 8 ∨ (10 ≤ j ∧ j ≤ 14))) ∨ (108 ≤ o ∧ o ≤ 109)) : jo_f σ (jw_up σ' o j v) := by
  refine ⟨fun c h1 h2 h3 => ?_, fun j' h1 h2 h3 h4 h5 h6 => ?_⟩
  · rw [jw_up_out _ _ _ (by omega)]
    exact h.1 c h1 h2 h3
  · rw [jw_up_ne _ (by omega)]
    exact h.2 j' h1 h2 h3 h4 h5 h6
theorem jo_f_f8 {σ σ' : jw_H} (h : jk_f8 σ σ') : jo_f σ σ' := ⟨fun c h1 _ _ => h.1 c h1, fun j h1 h2 h3 _ _ _ => h.2 j h1 h2 h3⟩
/-- the reader at a place i of a text of m bytes: so many open, what waits, the codes so far -/
def jo_rp (b : Int → Int) (d m i o : Int) (W c : jo_C) (σ : jw_H) : Prop := jk_tr σ b ∧ σ 103 9 = m ∧ m ≤ 240 ∧ σ 103 8 = i ∧ (0 ≤ i ∧ i ≤ m) ∧ σ 103 12 = o ∧ (o = (jo_op W : Int) ∧ o ≤ 6) ∧ σ 103 13 = (c.length : Int) ∧ σ 103 14 = (W.length : Int) ∧ ((c.length : Int) + (jo_wt W : Int) + d ≤ i ∧ (W.length : Int) ≤ i ∧ 0 ≤ d) ∧ jo_cr σ c ∧ jo_ws σ c W
section JOR
variable {b : Int → Int} {d d' m i o i' o' : Int} {W c W' c' : jo_C} {σ σ' : jw_H}
theorem jo_rp_mk (h : jo_rp b d m i o W c σ) (hf : jo_f σ σ') (e8 : σ' 103 8 = i') (hi : 0 ≤ i' ∧ i' ≤ m) (e12 : σ' 103 12 = o') (ho : o' = (jo_op W' : Int) ∧ o' ≤ 6) (e13 : σ' 103 13 = (c'.length : Int)) (e14 : σ' 103 14 = (W'.length : Int)) (hb : (c'.length : Int) + (jo_wt W' : Int) + d' ≤ i' ∧ (W'.length : Int) ≤ i' ∧ 0 ≤ d') (hc : jo_cr σ' c') (hw : jo_ws σ' c' W') : jo_rp b d' m i' o' W' c' σ' := by
  obtain ⟨⟨ht1, ht2, ht3⟩, em, h240, -⟩ := h
  have e9 : σ' 103 9 = σ 103 9 := hf.2 9 (by omega) (by omega) (by omega) (by omega) (by omega) (by omega)
  have e107 : σ' 107 = σ 107 := hf.1 107 (by omega) (by omega) (by omega)
  refine ⟨⟨by omega, by omega, ?_⟩, by omega, h240, e8, hi, e12, ho, e13, e14, hb, hc, hw⟩
  rw [e9, e107]
  exact ht3
theorem jo_cr_fr (h : jo_cr σ c) (e : σ' 108 = σ 108) : jo_cr σ' c := fun t q hq => by
  rw [e]
  exact h t q hq
theorem jo_cr_snoc {q : Int × Int} (h : jo_cr σ c) (e : σ' 108 (c.length : Int) = jo_wd q (c.length : Int)) (n : ∀ j : Int, j ≠ (c.length : Int) → σ' 108 j = σ 108 j) (h1 : 0 ≤ q.1 ∧ q.1 ≤ 12) (h2 : -1 ≤ q.2 ∧ q.2 ≤ 99999) : jo_cr σ' (c ++ [q]) := by
  intro t z hz
  by_cases ht : t < c.length
  · rw [List.getElem?_append_left ht] at hz
    rw [n _ (by omega)]
    exact h t z hz
  · rw [List.getElem?_append_right (by omega)] at hz
    have ht2 : t - c.length = 0 := by
      have := (List.getElem?_eq_some_iff.mp hz).1
      have e1 : ([q] : jo_C).length = 1 := rfl
      omega
    rw [ht2] at hz
    obtain rfl : q = z := Option.some.inj hz
    have ht3 : t = c.length := by omega
    rw [ht3]
    exact ⟨e, h1, h2⟩
theorem jo_put_len (a : Nat) : (jo_put c a).length = c.length := List.length_set
theorem jo_put_get {a : Nat} {z : Int × Int} (hz : c[a]? = some z) (t : Nat) : (jo_put c a)[t]? = if t = a then some (z.1, (c.length : Int) - (a : Int) - 1) else c[t]? := by
  unfold jo_put
  have ha := (List.getElem?_eq_some_iff.mp hz).1
  rw [List.getElem?_set, List.getD_eq_getElem?_getD, hz]
  by_cases h : t = a
  · rw [if_pos h, if_pos h.symm, if_pos (by omega)]
    rfl
  · rw [if_neg h, if_neg (fun w => h w.symm)]
theorem jo_cr_put {a : Nat} {z : Int × Int} (h : jo_cr σ c) (hz : c[a]? = some z) (hz1 : z.1 = 11 ∨ z.1 = 12) (hl : c.length ≤ 300) (e : σ' 108 (a : Int) = 1048576 * z.1 + (c.length : Int)) (n : ∀ j : Int, j ≠ (a : Int) → σ' 108 j = σ 108 j) : jo_cr σ' (jo_put c a) := by
  intro t q hq
  have ha := (List.getElem?_eq_some_iff.mp hz).1
  rw [jo_put_get hz] at hq
  by_cases ht : t = a
  · rw [if_pos ht] at hq
    obtain rfl := Option.some.inj hq
    rw [ht]
    refine ⟨?_, by show 0 ≤ z.1 ∧ z.1 ≤ 12; omega, by show -1 ≤ (c.length : Int) - (a : Int) - 1 ∧ (c.length : Int) - (a : Int) - 1 ≤ 99999; omega⟩
    show _ = 1048576 * z.1 + (if z.1 = 11 ∨ z.1 = 12 then (if (c.length : Int) - (a : Int) - 1 < 0 then 0 else (a : Int) + 1 + ((c.length : Int) - (a : Int) - 1)) else _)
    rw [if_pos hz1, if_neg (by omega), e]
    omega
  · rw [if_neg ht] at hq
    rw [n _ (by omega)]
    exact h t q hq
theorem jo_ws_fr : ∀ (W : jo_C), jo_ws σ c W → (∀ j : Int, j < (W.length : Int) → σ' 109 j = σ 109 j) → jo_ws σ' c W
  | [], h, e => trivial
  | q :: W, h, e => by
    refine ⟨?_, jo_ws_fr W h.2 (fun j hj => e j (by rw [List.length_cons]; omega))⟩
    rw [e _ (by rw [List.length_cons]; omega)]
    exact h.1
theorem jo_ws_c (hc : ∀ (t : Nat) (z : Int × Int), c[t]? = some z → (z.1 = 11 ∨ z.1 = 12) → ∃ z', c'[t]? = some z' ∧ (z'.1 = 11 ∨ z'.1 = 12)) : ∀ (W : jo_C), jo_ws σ c W → jo_ws σ c' W
  | [], h => trivial
  | q :: W, h => ⟨⟨h.1.1, h.1.2.1, h.1.2.2.1, fun hq => by
      obtain ⟨z, hz, hz1⟩ := h.1.2.2.2 hq
      exact hc _ z hz hz1⟩, jo_ws_c hc W h.2⟩
theorem jo_ws_snoc {q : Int × Int} (W : jo_C) (h : jo_ws σ c W) : jo_ws σ (c ++ [q]) W := jo_ws_c (fun t z hz hz1 => ⟨z, by rw [List.getElem?_append_left (List.getElem?_eq_some_iff.mp hz).1]; exact hz, hz1⟩) W h
theorem jo_ws_put {a : Nat} {z : Int × Int} (hz : c[a]? = some z) (hz1 : z.1 = 11 ∨ z.1 = 12) (W : jo_C) (h : jo_ws σ c W) : jo_ws σ (jo_put c a) W := jo_ws_c (fun t y hy hy1 => by
  rw [jo_put_get hz]
  by_cases ht : t = a
  · rw [if_pos ht]
    exact ⟨_, rfl, hz1⟩
  · rw [if_neg ht]
    exact ⟨y, hy, hy1⟩) W h
/-- what waits last -/
def jo_top : jo_C → Int
  | [] => -1
  | q :: _ => q.1
theorem jo_rp_pop {q : Int × Int} (h : jo_rp b d m i o (q :: W) c σ) (hq : q.1 ≤ 10) (hf : jo_f σ σ') (e8 : σ' 103 8 = σ 103 8) (e12 : σ' 103 12 = o') (ho : o' = (jo_op W : Int)) (e13 : σ' 103 13 = σ 103 13 + 1) (e14 : σ' 103 14 = σ 103 14 - 1) (e108 : σ' 108 (σ 103 13) = 1048576 * q.1) (n108 : ∀ j : Int, j ≠ σ 103 13 → σ' 108 j = σ 108 j) (e109 : σ' 109 = σ 109) : jo_rp b d m i o' W (c ++ [(q.1, 0)]) σ' := by
  have h0 := h
  obtain ⟨ht, em, h240, h8, hi, h12, hoo, h13, h14, hb, hc, hw⟩ := h
  have hqr := hw.1.2.1
  have hwt : jo_wt (q :: W) = 1 + jo_wt W := by
    show (if q.1 = 11 ∨ q.1 = 12 then 0 else 1) + jo_wt W = _
    rw [if_neg (by omega)]
  have hol : jo_op W ≤ jo_op (q :: W) := Nat.le_add_left _ _
  rw [List.length_cons] at h14
  rw [hwt, List.length_cons] at hb
  have hl1 : ((c ++ [(q.1, (0 : Int))]).length : Int) = (c.length : Int) + 1 := by
    rw [List.length_append]
    rfl
  rw [h13] at e108 n108
  refine jo_rp_mk h0 hf (e8.trans h8) hi e12 ⟨ho, by omega⟩ (by rw [hl1]; omega) (by omega) (by rw [hl1]; omega) (jo_cr_snoc hc ?_ n108 (by show 0 ≤ q.1 ∧ q.1 ≤ 12; omega) (by show -1 ≤ (0 : Int) ∧ (0 : Int) ≤ 99999; omega)) (jo_ws_snoc W (jo_ws_fr W hw.2 (fun j _ => by rw [e109])))
  rw [e108]
  show _ = 1048576 * q.1 + (if q.1 = 11 ∨ q.1 = 12 then _ else (0 : Int))
  rw [if_neg (by omega)]
  omega
end JOR
theorem jo_notes {n : Nat} {σ : jw_H} {x v : Int} (hx : 0 ≤ x ∧ x ≤ 14) (hv : 0 ≤ v ∧ v < 1048576) (h13 : 0 ≤ σ 103 13 ∧ σ 103 13 < 260)  : jw_T (js_S n) 1 191 [.inr (.inr 103), .inl x, .inl v] σ (fun r σ' => r = none ∧ σ' = jw_up (jw_up σ 108 (σ 103 13) (1048576 * x + v)) 103 13 (σ 103 13 + 1)) := by
  refine jw_T_of (D := 0) (M := mm_191) rfl (Nat.le_of_ble_eq_true rfl) (ls0 := [some (.inr (.inr 103)), some (.inl x), some (.inl v)]) rfl ?_ (by rintro _ _ ⟨rfl, -⟩; rfl)
  refine jw_W_n 1 (i' := 1) (ls' := [some (.inr (.inr 103)), some (.inl x), some (.inl v)]) (st' := [.inr (.inr 103)]) rfl ?_
  refine jw_W_gf rfl rfl rfl ?_
  show jw_W (js_S n) _ md_191 2 [some (.inr (.inr 103)), some (.inl x), some (.inl v)] [.inr (.inr 108)] σ _
  refine jw_W_n 1 (i' := 3) (ls' := [some (.inr (.inr 103)), some (.inl x), some (.inl v)]) (st' := [.inr (.inr 103), .inr (.inr 108)]) rfl ?_
  refine jw_W_gf rfl rfl rfl ?_
  show jw_W (js_S n) _ md_191 4 [some (.inr (.inr 103)), some (.inl x), some (.inl v)] [.inl (σ 103 13), .inr (.inr 108)] σ _
  refine jw_W_ldc (z := 1048576) rfl rfl ?_
  refine jw_W_n 4 (i' := 9) (ls' := [some (.inr (.inr 103)), some (.inl x), some (.inl v)]) (st' := [.inl ((1048576 * x) + v), .inl (σ 103 13), .inr (.inr 108)]) rfl ?_
  refine jw_W_is rfl (by omega) rfl (by omega) (by omega) (by omega) ?_
  refine jw_W_n 2 (i' := 12) (ls' := [some (.inr (.inr 103)), some (.inl x), some (.inl v)]) (st' := [.inr (.inr 103), .inr (.inr 103)]) rfl ?_
  refine jw_W_gf rfl rfl rfl ?_
  show jw_W (js_S n) _ md_191 13 [some (.inr (.inr 103)), some (.inl x), some (.inl v)] [.inl (σ 103 13), .inr (.inr 103)] ((jw_up σ 108 (σ 103 13) ((1048576 * x) + v))) _
  refine jw_W_n 2 (i' := 15) (ls' := [some (.inr (.inr 103)), some (.inl x), some (.inl v)]) (st' := [.inl (σ 103 13 + 1), .inr (.inr 103)]) rfl ?_
  refine jw_W_pf (a := σ 103 13 + 1) rfl (by omega) rfl rfl rfl rfl rfl ?_
  refine jw_W_re rfl ?_
  exact ⟨rfl, rfl⟩
theorem jo_waitTop {n : Nat} {σ : jw_H} {b : Int → Int} {d m i o : Int} {W c : jo_C} (hR : jo_rp b d m i o W c σ) : jw_T (js_S n) 1 193 [.inr (.inr 103)] σ (fun r σ' => r = some (.inl (jo_top W)) ∧ σ' = σ) := by
  refine jw_T_of (D := 0) (M := mm_193) rfl (Nat.le_of_ble_eq_true rfl) (ls0 := [some (.inr (.inr 103))]) rfl ?_ (by rintro _ _ ⟨rfl, -⟩; rfl)
  have hR0 := hR
  obtain ⟨ht, em, h240, h8, hi, h12, ho, h13, h14, hb, hc, hw⟩ := hR
  match W, hw, h14, hb with
  | [], hw, h14, hb =>
    have h14 : σ 103 14 = 0 := h14
    refine jw_W_n 1 (i' := 1) (ls' := [some (.inr (.inr 103))]) (st' := [.inr (.inr 103)]) rfl ?_
    refine jw_W_gf rfl rfl rfl ?_
    show jw_W (js_S n) _ md_193 2 [some (.inr (.inr 103))] [.inl (σ 103 14)] σ _
    refine jw_W_if rfl (by unfold jw_rg; omega) (fun hc1 => ?_) (fun hc1 => ?_)
    · have hc1 : (σ 103 14) ≠ 0 := hc1
      exfalso; omega
    · have hc1 : (σ 103 14) = 0 := Classical.not_not.mp hc1
      refine jw_W_n 2 (i' := 14) (ls' := [some (.inr (.inr 103))]) (st' := [.inl ((-1))]) rfl ?_
      refine jw_W_ir rfl ?_
      exact ⟨rfl, rfl⟩
  | q :: W, hw, h14, hb =>
    rw [List.length_cons] at h14 hb
    have h14 : σ 103 14 = (W.length : Int) + 1 := by omega
    have hqr := hw.1.2.1
    have hd : jw_div (σ 109 (σ 103 14 - 1)) 1048576 = q.1 := by
      rw [show σ 103 14 - 1 = (W.length : Int) by omega, hw.1.1]
      exact (jl_word (by omega) hw.1.2.2.1).1
    refine jw_W_n 1 (i' := 1) (ls' := [some (.inr (.inr 103))]) (st' := [.inr (.inr 103)]) rfl ?_
    refine jw_W_gf rfl rfl rfl ?_
    show jw_W (js_S n) _ md_193 2 [some (.inr (.inr 103))] [.inl (σ 103 14)] σ _
    refine jw_W_if rfl (by unfold jw_rg; omega) (fun hc1 => ?_) (fun hc1 => ?_)
    · have hc1 : (σ 103 14) ≠ 0 := hc1
      refine jw_W_n 1 (i' := 6) (ls' := [some (.inr (.inr 103))]) (st' := [.inr (.inr 103)]) rfl ?_
      refine jw_W_gf rfl rfl rfl ?_
      show jw_W (js_S n) _ md_193 7 [some (.inr (.inr 103))] [.inr (.inr 109)] σ _
      refine jw_W_n 1 (i' := 8) (ls' := [some (.inr (.inr 103))]) (st' := [.inr (.inr 103), .inr (.inr 109)]) rfl ?_
      refine jw_W_gf rfl rfl rfl ?_
      show jw_W (js_S n) _ md_193 9 [some (.inr (.inr 103))] [.inl (σ 103 14), .inr (.inr 109)] σ _
      refine jw_W_n 2 (i' := 11) (ls' := [some (.inr (.inr 103))]) (st' := [.inl (σ 103 14 - 1), .inr (.inr 109)]) rfl ?_
      refine jw_W_ia rfl rfl (by omega) (by omega) (by omega) ?_
      show jw_W (js_S n) _ md_193 12 [some (.inr (.inr 103))] [.inl (σ 109 (σ 103 14 - 1))] σ _
      refine jw_W_ldc (z := 1048576) rfl rfl ?_
      refine jw_W_idiv rfl (by unfold jw_rg; omega) (by omega) ?_
      refine jw_W_ir rfl ?_
      exact ⟨by rw [hd]; rfl, rfl⟩
    · have hc1 : (σ 103 14) = 0 := Classical.not_not.mp hc1
      exfalso; omega
def jo_ss (x : Int) : Int := if jl_sgn x ≠ 0 then jl_sgn x else if jl_tim x ≠ 0 then jl_tim x else -1
theorem jo_ss_43 {x : Int} (h : x = 43) : jo_ss x = 2 := by subst h; rfl
theorem jo_ss_45 {x : Int} (h : x = 45) : jo_ss x = 3 := by subst h; rfl
theorem jo_ss_42 {x : Int} (h : x = 42) : jo_ss x = 4 := by subst h; rfl
theorem jo_ss_47 {x : Int} (h : x = 47) : jo_ss x = 5 := by subst h; rfl
theorem jo_ss_37 {x : Int} (h : x = 37) : jo_ss x = 6 := by subst h; rfl
theorem jo_ss_no {x : Int} (h : x ≠ 43 ∧ x ≠ 45 ∧ x ≠ 42 ∧ x ≠ 47 ∧ x ≠ 37) : jo_ss x = -1 := by
  unfold jo_ss jl_sgn jl_tim
  rw [if_neg h.1, if_neg h.2.1, if_neg h.2.2.1, if_neg h.2.2.2.1, if_neg h.2.2.2.2]
  rfl
/-- a sign of a sum, of a product, or none -/
theorem jo_ss_rg (x : Int) : (jl_sgn x ≠ 0 ∧ jl_tim x = 0 ∧ jo_ss x = jl_sgn x ∧ 2 ≤ jl_sgn x ∧ jl_sgn x ≤ 3 ∧ x ≠ -1) ∨ (jl_sgn x = 0 ∧ jl_tim x ≠ 0 ∧ jo_ss x = jl_tim x ∧ 4 ≤ jl_tim x ∧ jl_tim x ≤ 6 ∧ x ≠ -1) ∨ (jl_sgn x = 0 ∧ jl_tim x = 0 ∧ jo_ss x = -1) := by
  by_cases h1 : x = 43
  · exact .inl (by subst h1; decide)
  · by_cases h2 : x = 45
    · exact .inl (by subst h2; decide)
    · by_cases h3 : x = 42
      · exact .inr (.inl (by subst h3; decide))
      · by_cases h4 : x = 47
        · exact .inr (.inl (by subst h4; decide))
        · by_cases h5 : x = 37
          · exact .inr (.inl (by subst h5; decide))
          · refine .inr (.inr ⟨?_, ?_, jo_ss_no ⟨h1, h2, h3, h4, h5⟩⟩)
            · unfold jl_sgn
              rw [if_neg h1, if_neg h2]
            · unfold jl_tim
              rw [if_neg h3, if_neg h4, if_neg h5]
theorem jo_sumSign {n : Nat} {σ : jw_H} {x : Int} (hx : -1 ≤ x ∧ x ≤ 255)  : jw_T (js_S n) 1 195 [.inl x] σ (fun r σ' => r = some (.inl (jo_ss x)) ∧ σ' = σ) := by
  refine jw_T_of (D := 0) (M := mm_195) rfl (Nat.le_of_ble_eq_true rfl) (ls0 := [some (.inl x)]) rfl ?_ (by rintro _ _ ⟨rfl, -⟩; rfl)
  refine jw_W_n 2 (i' := 2) (ls' := [some (.inl x)]) (st' := [.inl 43, .inl x]) rfl ?_
  refine jw_W_ic rfl (by unfold jw_rg; omega) (by unfold jw_rg; omega) (fun hc1 => ?_) (fun hc1 => ?_)
  · have hc1 : x ≠ 43 := hc1
    refine jw_W_n 2 (i' := 7) (ls' := [some (.inl x)]) (st' := [.inl 45, .inl x]) rfl ?_
    refine jw_W_ic rfl (by unfold jw_rg; omega) (by unfold jw_rg; omega) (fun hc2 => ?_) (fun hc2 => ?_)
    · have hc2 : x ≠ 45 := hc2
      refine jw_W_n 2 (i' := 12) (ls' := [some (.inl x)]) (st' := [.inl 42, .inl x]) rfl ?_
      refine jw_W_ic rfl (by unfold jw_rg; omega) (by unfold jw_rg; omega) (fun hc3 => ?_) (fun hc3 => ?_)
      · have hc3 : x ≠ 42 := hc3
        refine jw_W_n 2 (i' := 17) (ls' := [some (.inl x)]) (st' := [.inl 47, .inl x]) rfl ?_
        refine jw_W_ic rfl (by unfold jw_rg; omega) (by unfold jw_rg; omega) (fun hc4 => ?_) (fun hc4 => ?_)
        · have hc4 : x ≠ 47 := hc4
          refine jw_W_n 2 (i' := 22) (ls' := [some (.inl x)]) (st' := [.inl 37, .inl x]) rfl ?_
          refine jw_W_ic rfl (by unfold jw_rg; omega) (by unfold jw_rg; omega) (fun hc5 => ?_) (fun hc5 => ?_)
          · have hc5 : x ≠ 37 := hc5
            refine jw_W_n 1 (i' := 26) (ls' := [some (.inl x)]) (st' := [.inl ((-1))]) rfl ?_
            refine jw_W_ir rfl ?_
            exact ⟨by rw [jo_ss_no (by omega)], rfl⟩
          · have hc5 : x = 37 := Classical.not_not.mp hc5
            refine jw_W_n 2 (i' := 26) (ls' := [some (.inl x)]) (st' := [.inl 6]) rfl ?_
            refine jw_W_ir rfl ?_
            exact ⟨by rw [jo_ss_37 (by omega)], rfl⟩
        · have hc4 : x = 47 := Classical.not_not.mp hc4
          refine jw_W_n 2 (i' := 26) (ls' := [some (.inl x)]) (st' := [.inl 5]) rfl ?_
          refine jw_W_ir rfl ?_
          exact ⟨by rw [jo_ss_47 (by omega)], rfl⟩
      · have hc3 : x = 42 := Classical.not_not.mp hc3
        refine jw_W_n 2 (i' := 26) (ls' := [some (.inl x)]) (st' := [.inl 4]) rfl ?_
        refine jw_W_ir rfl ?_
        exact ⟨by rw [jo_ss_42 (by omega)], rfl⟩
    · have hc2 : x = 45 := Classical.not_not.mp hc2
      refine jw_W_n 2 (i' := 26) (ls' := [some (.inl x)]) (st' := [.inl 3]) rfl ?_
      refine jw_W_ir rfl ?_
      exact ⟨by rw [jo_ss_45 (by omega)], rfl⟩
  · have hc1 : x = 43 := Classical.not_not.mp hc1
    refine jw_W_n 2 (i' := 26) (ls' := [some (.inl x)]) (st' := [.inl 2]) rfl ?_
    refine jw_W_ir rfl ?_
    exact ⟨by rw [jo_ss_43 (by omega)], rfl⟩
theorem jo_closes_loop {n : Nat} {σ : jw_H} {b : Int → Int} {d m i o a : Int} {all : Bool} (ha : (a = 1 ∧ all = true) ∨ (a = 0 ∧ all = false)) : ∀ (W : jo_C) {c : jo_C} {τ : jw_H}, jo_rp b d m i o W c τ → jo_f σ τ → jw_W (js_S n) 2 md_196 0 [some (.inr (.inr 103)), some (.inl a)] [] τ (fun r σ' => r = none ∧ jo_f σ σ' ∧ jo_rp b d m i o (jo_cl all W c).1 (jo_cl all W c).2 σ')
  | [], c, τ, hR, hf => by
    have hR0 := hR
    obtain ⟨ht, em, h240, h8, hi, h12, ho, h13, h14, hb, hc, hw⟩ := hR
    have w9 := jo_waitTop (n := n) hR0
    have w9 : jw_T (js_S n) 1 193 [.inr (.inr 103)] τ (fun r σ' => r = some (.inl (-1)) ∧ σ' = τ) := w9
    refine jw_W_n 1 (i' := 1) (ls' := [some (.inr (.inr 103)), some (.inl a)]) (st' := [.inr (.inr 103)]) rfl ?_
    refine jw_W_call (as := [.inr (.inr 103)]) (rest := []) rfl rfl rfl rfl (Nat.le_of_ble_eq_true rfl) (.inr rfl) (w9) (by omega) ?_ rfl
    rintro r1 σz ⟨rfl, hs⟩
    rw [hs]
    show jw_W (js_S n) _ md_196 2 [some (.inr (.inr 103)), some (.inl a)] [.inl ((-1))] τ _
    refine jw_W_n 1 (i' := 3) (ls' := [some (.inr (.inr 103)), some (.inl a)]) (st' := [.inl 4, .inl ((-1))]) rfl ?_
    refine jw_W_ic rfl (by unfold jw_rg; omega) (by unfold jw_rg; omega) (fun hc1 => ?_) (fun hc1 => ?_)
    · clear hc1
      refine jw_W_n 1 (i' := 9) (ls' := [some (.inr (.inr 103)), some (.inl a)]) (st' := [.inl a]) rfl ?_
      refine jw_W_if rfl (by unfold jw_rg; omega) (fun hc2 => ?_) (fun hc2 => ?_)
      · have hc2 : a = 0 := hc2
        refine jw_W_re rfl ?_
        exact ⟨rfl, hf, hR0⟩
      · have hc2 : ¬ (a = 0) := hc2
        refine jw_W_n 1 (i' := 11) (ls' := [some (.inr (.inr 103)), some (.inl a)]) (st' := [.inr (.inr 103)]) rfl ?_
        refine jw_W_call (as := [.inr (.inr 103)]) (rest := []) rfl rfl rfl rfl (Nat.le_of_ble_eq_true rfl) (.inr rfl) (w9) (by omega) ?_ rfl
        rintro r1 σz ⟨rfl, hs⟩
        rw [hs]
        show jw_W (js_S n) _ md_196 12 [some (.inr (.inr 103)), some (.inl a)] [.inl ((-1))] τ _
        refine jw_W_n 1 (i' := 13) (ls' := [some (.inr (.inr 103)), some (.inl a)]) (st' := [.inl 2, .inl ((-1))]) rfl ?_
        refine jw_W_ic rfl (by unfold jw_rg; omega) (by unfold jw_rg; omega) (fun hc3 => ?_) (fun hc3 => ?_)
        · exact absurd hc3 (show ¬ ((((-1 : Int))) = 2) by omega)
        · clear hc3
          refine jw_W_n 1 (i' := 15) (ls' := [some (.inr (.inr 103)), some (.inl a)]) (st' := [.inr (.inr 103)]) rfl ?_
          refine jw_W_call (as := [.inr (.inr 103)]) (rest := []) rfl rfl rfl rfl (Nat.le_of_ble_eq_true rfl) (.inr rfl) (w9) (by omega) ?_ rfl
          rintro r1 σz ⟨rfl, hs⟩
          rw [hs]
          show jw_W (js_S n) _ md_196 16 [some (.inr (.inr 103)), some (.inl a)] [.inl ((-1))] τ _
          refine jw_W_n 1 (i' := 17) (ls' := [some (.inr (.inr 103)), some (.inl a)]) (st' := [.inl 3, .inl ((-1))]) rfl ?_
          refine jw_W_ic rfl (by unfold jw_rg; omega) (by unfold jw_rg; omega) (fun hc4 => ?_) (fun hc4 => ?_)
          · clear hc4
            refine jw_W_re rfl ?_
            exact ⟨rfl, hf, hR0⟩
          · exact absurd hc4 (show ¬ ¬ ((((-1 : Int))) ≠ 3) by omega)
    · exact absurd hc1 (show ¬ ¬ ((((-1 : Int))) < 4) by omega)
  | q :: W, c, τ, hR, hf => by
    have hR0 := hR
    obtain ⟨ht, em, h240, h8, hi, h12, ho, h13, h14, hb, hc, hw⟩ := hR
    have hqr := hw.1.2.1
    have hwt : q.1 ≤ 10 → jo_wt (q :: W) = 1 + jo_wt W := fun h => by
      show (if q.1 = 11 ∨ q.1 = 12 then 0 else 1) + jo_wt W = _
      rw [if_neg (by omega)]
    have w9 := jo_waitTop (n := n) hR0
    have w9 : jw_T (js_S n) 1 193 [.inr (.inr 103)] τ (fun r σ' => r = some (.inl (q.1)) ∧ σ' = τ) := w9
    have a01 : 0 ≤ a ∧ a ≤ 1 := by omega
    have stop : ¬ ((4 ≤ q.1 ∧ q.1 ≤ 6) ∨ (a ≠ 0 ∧ 2 ≤ q.1 ∧ q.1 ≤ 3)) → (none : Option jw_V) = none ∧ jo_f σ τ ∧ jo_rp b d m i o (jo_cl all (q :: W) c).1 (jo_cl all (q :: W) c).2 τ := by
      intro hn
      rw [jo_cl_n (fun w => hn (w.elim .inl (fun w => .inr ⟨fun a0 => by rcases ha with ⟨a1, -⟩ | ⟨-, a1⟩; omega; rw [a1] at w; exact Bool.noConfusion w.1, w.2⟩)))]
      exact ⟨rfl, hf, hR0⟩
    have go : ((4 ≤ q.1 ∧ q.1 ≤ 6) ∨ (a ≠ 0 ∧ 2 ≤ q.1 ∧ q.1 ≤ 3)) → ∀ {υ : jw_H}, υ = (jw_up (jw_up (jw_up τ 108 (τ 103 13) ((1048576 * q.1) + 0)) 103 13 (τ 103 13 + 1)) 103 14 (τ 103 14 - 1)) → jw_W (js_S n) 2 md_196 0 [some (.inr (.inr 103)), some (.inl a)] [] υ (fun r σ' => r = none ∧ jo_f σ σ' ∧ jo_rp b d m i o (jo_cl all (q :: W) c).1 (jo_cl all (q :: W) c).2 σ') := by
      intro hy υ hυ
      rw [jo_cl_y (hy.elim .inl (fun w => .inr ⟨by rcases ha with ⟨-, a1⟩ | ⟨a1, -⟩; exact a1; exact absurd a1 w.1, w.2⟩))]
      have hfu : jo_f τ υ := by rw [hυ]; exact jo_f_up (jo_f_up (jo_f_up (jo_f_rf τ) (by omega)) (by omega)) (by omega)
      have hop : jo_op (q :: W) = jo_op W := by
        show (if q.1 = 10 ∨ q.1 = 13 ∨ q.1 = 14 then 1 else 0) + jo_op W = _
        rw [if_neg (by omega), Nat.zero_add]
      refine jo_closes_loop ha W (jo_rp_pop hR0 (by omega) hfu (by rw [hυ]; rfl) (by rw [hυ]; exact h12) (by omega) (by rw [hυ]; rfl) (by rw [hυ]; rfl) ?_ (fun j hj => ?_) (by rw [hυ]; rfl)) (jo_f_tr hf hfu)
      · rw [hυ, jw_up_out _ _ _ (by omega), jw_up_out _ _ _ (by omega), jw_up_eq]
        omega
      · rw [hυ, jw_up_out _ _ _ (by omega), jw_up_out _ _ _ (by omega), jw_up_ne _ (by omega)]
    have hwt1 : (4 ≤ q.1 ∧ q.1 ≤ 6) ∨ (a ≠ 0 ∧ 2 ≤ q.1 ∧ q.1 ≤ 3) → jo_wt (q :: W) = 1 + jo_wt W := fun h => hwt (by omega)
    have hb1 := hb.1
    have h240 := h240
    have hcl : q.1 ≤ 10 → τ 103 13 < 260 := fun h => by have := hwt h; omega
    clear hwt hwt1 ha hb
    refine jw_W_n 1 (i' := 1) (ls' := [some (.inr (.inr 103)), some (.inl a)]) (st' := [.inr (.inr 103)]) rfl ?_
    refine jw_W_call (as := [.inr (.inr 103)]) (rest := []) rfl rfl rfl rfl (Nat.le_of_ble_eq_true rfl) (.inr rfl) (w9) (by omega) ?_ rfl
    rintro r1 σz ⟨rfl, hs⟩
    rw [hs]
    show jw_W (js_S n) _ md_196 2 [some (.inr (.inr 103)), some (.inl a)] [.inl q.1] τ _
    refine jw_W_n 1 (i' := 3) (ls' := [some (.inr (.inr 103)), some (.inl a)]) (st' := [.inl 4, .inl q.1]) rfl ?_
    refine jw_W_ic rfl (by unfold jw_rg; omega) (by unfold jw_rg; omega) (fun hc1 => ?_) (fun hc1 => ?_)
    · have hc1 : q.1 < 4 := hc1
      refine jw_W_n 1 (i' := 9) (ls' := [some (.inr (.inr 103)), some (.inl a)]) (st' := [.inl a]) rfl ?_
      refine jw_W_if rfl (by unfold jw_rg; omega) (fun hc2 => ?_) (fun hc2 => ?_)
      · have hc2 : a = 0 := hc2
        refine jw_W_re rfl ?_
        exact stop (by omega)
      · have hc2 : ¬ (a = 0) := hc2
        refine jw_W_n 1 (i' := 11) (ls' := [some (.inr (.inr 103)), some (.inl a)]) (st' := [.inr (.inr 103)]) rfl ?_
        refine jw_W_call (as := [.inr (.inr 103)]) (rest := []) rfl rfl rfl rfl (Nat.le_of_ble_eq_true rfl) (.inr rfl) (w9) (by omega) ?_ rfl
        rintro r1 σz ⟨rfl, hs⟩
        rw [hs]
        show jw_W (js_S n) _ md_196 12 [some (.inr (.inr 103)), some (.inl a)] [.inl q.1] τ _
        refine jw_W_n 1 (i' := 13) (ls' := [some (.inr (.inr 103)), some (.inl a)]) (st' := [.inl 2, .inl q.1]) rfl ?_
        refine jw_W_ic rfl (by unfold jw_rg; omega) (by unfold jw_rg; omega) (fun hc3 => ?_) (fun hc3 => ?_)
        · have hc3 : q.1 = 2 := hc3
          refine jw_W_n 2 (i' := 20) (ls' := [some (.inr (.inr 103)), some (.inl a)]) (st' := [.inr (.inr 103), .inr (.inr 103)]) rfl ?_
          refine jw_W_call (as := [.inr (.inr 103)]) (rest := [.inr (.inr 103)]) rfl rfl rfl rfl (Nat.le_of_ble_eq_true rfl) (.inr rfl) (w9) (by omega) ?_ rfl
          rintro r1 σz ⟨rfl, hs⟩
          rw [hs]
          show jw_W (js_S n) _ md_196 21 [some (.inr (.inr 103)), some (.inl a)] [.inl q.1, .inr (.inr 103)] τ _
          refine jw_W_n 1 (i' := 22) (ls' := [some (.inr (.inr 103)), some (.inl a)]) (st' := [.inl 0, .inl q.1, .inr (.inr 103)]) rfl ?_
          refine jw_W_call (as := [.inr (.inr 103), .inl q.1, .inl 0]) (rest := []) rfl rfl rfl rfl (Nat.le_of_ble_eq_true rfl) (.inr rfl) (jo_notes (by omega) (by omega) ⟨by omega, hcl (by omega)⟩) (by omega) ?_ rfl
          rintro r1 σz ⟨rfl, hs⟩
          rw [hs]
          show jw_W (js_S n) _ md_196 23 [some (.inr (.inr 103)), some (.inl a)] [] ((jw_up (jw_up τ 108 (τ 103 13) ((1048576 * q.1) + 0)) 103 13 (τ 103 13 + 1))) _
          refine jw_W_n 2 (i' := 25) (ls' := [some (.inr (.inr 103)), some (.inl a)]) (st' := [.inr (.inr 103), .inr (.inr 103)]) rfl ?_
          refine jw_W_gf rfl rfl rfl ?_
          show jw_W (js_S n) _ md_196 26 [some (.inr (.inr 103)), some (.inl a)] [.inl (τ 103 14), .inr (.inr 103)] ((jw_up (jw_up τ 108 (τ 103 13) ((1048576 * q.1) + 0)) 103 13 (τ 103 13 + 1))) _
          refine jw_W_n 2 (i' := 28) (ls' := [some (.inr (.inr 103)), some (.inl a)]) (st' := [.inl (τ 103 14 - 1), .inr (.inr 103)]) rfl ?_
          refine jw_W_pf (a := τ 103 14 - 1) rfl (by omega) rfl rfl rfl rfl rfl ?_
          refine jw_W_n 1 (i' := 0) (ls' := [some (.inr (.inr 103)), some (.inl a)]) (st' := []) rfl ?_
          exact go (by omega) rfl
        · have hc3 : ¬ (q.1 = 2) := hc3
          refine jw_W_n 1 (i' := 15) (ls' := [some (.inr (.inr 103)), some (.inl a)]) (st' := [.inr (.inr 103)]) rfl ?_
          refine jw_W_call (as := [.inr (.inr 103)]) (rest := []) rfl rfl rfl rfl (Nat.le_of_ble_eq_true rfl) (.inr rfl) (w9) (by omega) ?_ rfl
          rintro r1 σz ⟨rfl, hs⟩
          rw [hs]
          show jw_W (js_S n) _ md_196 16 [some (.inr (.inr 103)), some (.inl a)] [.inl q.1] τ _
          refine jw_W_n 1 (i' := 17) (ls' := [some (.inr (.inr 103)), some (.inl a)]) (st' := [.inl 3, .inl q.1]) rfl ?_
          refine jw_W_ic rfl (by unfold jw_rg; omega) (by unfold jw_rg; omega) (fun hc4 => ?_) (fun hc4 => ?_)
          · have hc4 : q.1 ≠ 3 := hc4
            refine jw_W_re rfl ?_
            exact stop (by omega)
          · have hc4 : q.1 = 3 := Classical.not_not.mp hc4
            refine jw_W_n 2 (i' := 20) (ls' := [some (.inr (.inr 103)), some (.inl a)]) (st' := [.inr (.inr 103), .inr (.inr 103)]) rfl ?_
            refine jw_W_call (as := [.inr (.inr 103)]) (rest := [.inr (.inr 103)]) rfl rfl rfl rfl (Nat.le_of_ble_eq_true rfl) (.inr rfl) (w9) (by omega) ?_ rfl
            rintro r1 σz ⟨rfl, hs⟩
            rw [hs]
            show jw_W (js_S n) _ md_196 21 [some (.inr (.inr 103)), some (.inl a)] [.inl q.1, .inr (.inr 103)] τ _
            refine jw_W_n 1 (i' := 22) (ls' := [some (.inr (.inr 103)), some (.inl a)]) (st' := [.inl 0, .inl q.1, .inr (.inr 103)]) rfl ?_
            refine jw_W_call (as := [.inr (.inr 103), .inl q.1, .inl 0]) (rest := []) rfl rfl rfl rfl (Nat.le_of_ble_eq_true rfl) (.inr rfl) (jo_notes (by omega) (by omega) ⟨by omega, hcl (by omega)⟩) (by omega) ?_ rfl
            rintro r1 σz ⟨rfl, hs⟩
            rw [hs]
            show jw_W (js_S n) _ md_196 23 [some (.inr (.inr 103)), some (.inl a)] [] ((jw_up (jw_up τ 108 (τ 103 13) ((1048576 * q.1) + 0)) 103 13 (τ 103 13 + 1))) _
            refine jw_W_n 2 (i' := 25) (ls' := [some (.inr (.inr 103)), some (.inl a)]) (st' := [.inr (.inr 103), .inr (.inr 103)]) rfl ?_
            refine jw_W_gf rfl rfl rfl ?_
            show jw_W (js_S n) _ md_196 26 [some (.inr (.inr 103)), some (.inl a)] [.inl (τ 103 14), .inr (.inr 103)] ((jw_up (jw_up τ 108 (τ 103 13) ((1048576 * q.1) + 0)) 103 13 (τ 103 13 + 1))) _
            refine jw_W_n 2 (i' := 28) (ls' := [some (.inr (.inr 103)), some (.inl a)]) (st' := [.inl (τ 103 14 - 1), .inr (.inr 103)]) rfl ?_
            refine jw_W_pf (a := τ 103 14 - 1) rfl (by omega) rfl rfl rfl rfl rfl ?_
            refine jw_W_n 1 (i' := 0) (ls' := [some (.inr (.inr 103)), some (.inl a)]) (st' := []) rfl ?_
            exact go (by omega) rfl
    · have hc1 : ¬ (q.1 < 4) := hc1
      refine jw_W_n 1 (i' := 5) (ls' := [some (.inr (.inr 103)), some (.inl a)]) (st' := [.inr (.inr 103)]) rfl ?_
      refine jw_W_call (as := [.inr (.inr 103)]) (rest := []) rfl rfl rfl rfl (Nat.le_of_ble_eq_true rfl) (.inr rfl) (w9) (by omega) ?_ rfl
      rintro r1 σz ⟨rfl, hs⟩
      rw [hs]
      show jw_W (js_S n) _ md_196 6 [some (.inr (.inr 103)), some (.inl a)] [.inl q.1] τ _
      refine jw_W_n 1 (i' := 7) (ls' := [some (.inr (.inr 103)), some (.inl a)]) (st' := [.inl 6, .inl q.1]) rfl ?_
      refine jw_W_ic rfl (by unfold jw_rg; omega) (by unfold jw_rg; omega) (fun hc5 => ?_) (fun hc5 => ?_)
      · have hc5 : q.1 ≤ 6 := hc5
        refine jw_W_n 2 (i' := 20) (ls' := [some (.inr (.inr 103)), some (.inl a)]) (st' := [.inr (.inr 103), .inr (.inr 103)]) rfl ?_
        refine jw_W_call (as := [.inr (.inr 103)]) (rest := [.inr (.inr 103)]) rfl rfl rfl rfl (Nat.le_of_ble_eq_true rfl) (.inr rfl) (w9) (by omega) ?_ rfl
        rintro r1 σz ⟨rfl, hs⟩
        rw [hs]
        show jw_W (js_S n) _ md_196 21 [some (.inr (.inr 103)), some (.inl a)] [.inl q.1, .inr (.inr 103)] τ _
        refine jw_W_n 1 (i' := 22) (ls' := [some (.inr (.inr 103)), some (.inl a)]) (st' := [.inl 0, .inl q.1, .inr (.inr 103)]) rfl ?_
        refine jw_W_call (as := [.inr (.inr 103), .inl q.1, .inl 0]) (rest := []) rfl rfl rfl rfl (Nat.le_of_ble_eq_true rfl) (.inr rfl) (jo_notes (by omega) (by omega) ⟨by omega, hcl (by omega)⟩) (by omega) ?_ rfl
        rintro r1 σz ⟨rfl, hs⟩
        rw [hs]
        show jw_W (js_S n) _ md_196 23 [some (.inr (.inr 103)), some (.inl a)] [] ((jw_up (jw_up τ 108 (τ 103 13) ((1048576 * q.1) + 0)) 103 13 (τ 103 13 + 1))) _
        refine jw_W_n 2 (i' := 25) (ls' := [some (.inr (.inr 103)), some (.inl a)]) (st' := [.inr (.inr 103), .inr (.inr 103)]) rfl ?_
        refine jw_W_gf rfl rfl rfl ?_
        show jw_W (js_S n) _ md_196 26 [some (.inr (.inr 103)), some (.inl a)] [.inl (τ 103 14), .inr (.inr 103)] ((jw_up (jw_up τ 108 (τ 103 13) ((1048576 * q.1) + 0)) 103 13 (τ 103 13 + 1))) _
        refine jw_W_n 2 (i' := 28) (ls' := [some (.inr (.inr 103)), some (.inl a)]) (st' := [.inl (τ 103 14 - 1), .inr (.inr 103)]) rfl ?_
        refine jw_W_pf (a := τ 103 14 - 1) rfl (by omega) rfl rfl rfl rfl rfl ?_
        refine jw_W_n 1 (i' := 0) (ls' := [some (.inr (.inr 103)), some (.inl a)]) (st' := []) rfl ?_
        exact go (by omega) rfl
      · have hc5 : ¬ (q.1 ≤ 6) := hc5
        refine jw_W_n 1 (i' := 9) (ls' := [some (.inr (.inr 103)), some (.inl a)]) (st' := [.inl a]) rfl ?_
        refine jw_W_if rfl (by unfold jw_rg; omega) (fun hc6 => ?_) (fun hc6 => ?_)
        · have hc6 : a = 0 := hc6
          refine jw_W_re rfl ?_
          exact stop (by omega)
        · have hc6 : ¬ (a = 0) := hc6
          refine jw_W_n 1 (i' := 11) (ls' := [some (.inr (.inr 103)), some (.inl a)]) (st' := [.inr (.inr 103)]) rfl ?_
          refine jw_W_call (as := [.inr (.inr 103)]) (rest := []) rfl rfl rfl rfl (Nat.le_of_ble_eq_true rfl) (.inr rfl) (w9) (by omega) ?_ rfl
          rintro r1 σz ⟨rfl, hs⟩
          rw [hs]
          show jw_W (js_S n) _ md_196 12 [some (.inr (.inr 103)), some (.inl a)] [.inl q.1] τ _
          refine jw_W_n 1 (i' := 13) (ls' := [some (.inr (.inr 103)), some (.inl a)]) (st' := [.inl 2, .inl q.1]) rfl ?_
          refine jw_W_ic rfl (by unfold jw_rg; omega) (by unfold jw_rg; omega) (fun hc7 => ?_) (fun hc7 => ?_)
          · have hc7 : q.1 = 2 := hc7
            refine jw_W_n 2 (i' := 20) (ls' := [some (.inr (.inr 103)), some (.inl a)]) (st' := [.inr (.inr 103), .inr (.inr 103)]) rfl ?_
            refine jw_W_call (as := [.inr (.inr 103)]) (rest := [.inr (.inr 103)]) rfl rfl rfl rfl (Nat.le_of_ble_eq_true rfl) (.inr rfl) (w9) (by omega) ?_ rfl
            rintro r1 σz ⟨rfl, hs⟩
            rw [hs]
            show jw_W (js_S n) _ md_196 21 [some (.inr (.inr 103)), some (.inl a)] [.inl q.1, .inr (.inr 103)] τ _
            refine jw_W_n 1 (i' := 22) (ls' := [some (.inr (.inr 103)), some (.inl a)]) (st' := [.inl 0, .inl q.1, .inr (.inr 103)]) rfl ?_
            refine jw_W_call (as := [.inr (.inr 103), .inl q.1, .inl 0]) (rest := []) rfl rfl rfl rfl (Nat.le_of_ble_eq_true rfl) (.inr rfl) (jo_notes (by omega) (by omega) ⟨by omega, hcl (by omega)⟩) (by omega) ?_ rfl
            rintro r1 σz ⟨rfl, hs⟩
            rw [hs]
            show jw_W (js_S n) _ md_196 23 [some (.inr (.inr 103)), some (.inl a)] [] ((jw_up (jw_up τ 108 (τ 103 13) ((1048576 * q.1) + 0)) 103 13 (τ 103 13 + 1))) _
            refine jw_W_n 2 (i' := 25) (ls' := [some (.inr (.inr 103)), some (.inl a)]) (st' := [.inr (.inr 103), .inr (.inr 103)]) rfl ?_
            refine jw_W_gf rfl rfl rfl ?_
            show jw_W (js_S n) _ md_196 26 [some (.inr (.inr 103)), some (.inl a)] [.inl (τ 103 14), .inr (.inr 103)] ((jw_up (jw_up τ 108 (τ 103 13) ((1048576 * q.1) + 0)) 103 13 (τ 103 13 + 1))) _
            refine jw_W_n 2 (i' := 28) (ls' := [some (.inr (.inr 103)), some (.inl a)]) (st' := [.inl (τ 103 14 - 1), .inr (.inr 103)]) rfl ?_
            refine jw_W_pf (a := τ 103 14 - 1) rfl (by omega) rfl rfl rfl rfl rfl ?_
            refine jw_W_n 1 (i' := 0) (ls' := [some (.inr (.inr 103)), some (.inl a)]) (st' := []) rfl ?_
            exact go (by omega) rfl
          · have hc7 : ¬ (q.1 = 2) := hc7
            refine jw_W_n 1 (i' := 15) (ls' := [some (.inr (.inr 103)), some (.inl a)]) (st' := [.inr (.inr 103)]) rfl ?_
            refine jw_W_call (as := [.inr (.inr 103)]) (rest := []) rfl rfl rfl rfl (Nat.le_of_ble_eq_true rfl) (.inr rfl) (w9) (by omega) ?_ rfl
            rintro r1 σz ⟨rfl, hs⟩
            rw [hs]
            show jw_W (js_S n) _ md_196 16 [some (.inr (.inr 103)), some (.inl a)] [.inl q.1] τ _
            refine jw_W_n 1 (i' := 17) (ls' := [some (.inr (.inr 103)), some (.inl a)]) (st' := [.inl 3, .inl q.1]) rfl ?_
            refine jw_W_ic rfl (by unfold jw_rg; omega) (by unfold jw_rg; omega) (fun hc8 => ?_) (fun hc8 => ?_)
            · have hc8 : q.1 ≠ 3 := hc8
              refine jw_W_re rfl ?_
              exact stop (by omega)
            · have hc8 : q.1 = 3 := Classical.not_not.mp hc8
              refine jw_W_n 2 (i' := 20) (ls' := [some (.inr (.inr 103)), some (.inl a)]) (st' := [.inr (.inr 103), .inr (.inr 103)]) rfl ?_
              refine jw_W_call (as := [.inr (.inr 103)]) (rest := [.inr (.inr 103)]) rfl rfl rfl rfl (Nat.le_of_ble_eq_true rfl) (.inr rfl) (w9) (by omega) ?_ rfl
              rintro r1 σz ⟨rfl, hs⟩
              rw [hs]
              show jw_W (js_S n) _ md_196 21 [some (.inr (.inr 103)), some (.inl a)] [.inl q.1, .inr (.inr 103)] τ _
              refine jw_W_n 1 (i' := 22) (ls' := [some (.inr (.inr 103)), some (.inl a)]) (st' := [.inl 0, .inl q.1, .inr (.inr 103)]) rfl ?_
              refine jw_W_call (as := [.inr (.inr 103), .inl q.1, .inl 0]) (rest := []) rfl rfl rfl rfl (Nat.le_of_ble_eq_true rfl) (.inr rfl) (jo_notes (by omega) (by omega) ⟨by omega, hcl (by omega)⟩) (by omega) ?_ rfl
              rintro r1 σz ⟨rfl, hs⟩
              rw [hs]
              show jw_W (js_S n) _ md_196 23 [some (.inr (.inr 103)), some (.inl a)] [] ((jw_up (jw_up τ 108 (τ 103 13) ((1048576 * q.1) + 0)) 103 13 (τ 103 13 + 1))) _
              refine jw_W_n 2 (i' := 25) (ls' := [some (.inr (.inr 103)), some (.inl a)]) (st' := [.inr (.inr 103), .inr (.inr 103)]) rfl ?_
              refine jw_W_gf rfl rfl rfl ?_
              show jw_W (js_S n) _ md_196 26 [some (.inr (.inr 103)), some (.inl a)] [.inl (τ 103 14), .inr (.inr 103)] ((jw_up (jw_up τ 108 (τ 103 13) ((1048576 * q.1) + 0)) 103 13 (τ 103 13 + 1))) _
              refine jw_W_n 2 (i' := 28) (ls' := [some (.inr (.inr 103)), some (.inl a)]) (st' := [.inl (τ 103 14 - 1), .inr (.inr 103)]) rfl ?_
              refine jw_W_pf (a := τ 103 14 - 1) rfl (by omega) rfl rfl rfl rfl rfl ?_
              refine jw_W_n 1 (i' := 0) (ls' := [some (.inr (.inr 103)), some (.inl a)]) (st' := []) rfl ?_
              exact go (by omega) rfl

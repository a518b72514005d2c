/-! ===== divisions of ints; whole: class and reference ===== -/
theorem jn_tdiv {x y : Int} (x0 : jw_rg x) (y0 : jw_rg y) (h : ¬ (x = -2147483648 ∧ y = -1)) : jw_div x y = x.tdiv y := by
  unfold jw_div
  obtain ⟨a, b⟩ := x0
  obtain ⟨c, d⟩ := y0
  have e1 : Int32.ofInt x / Int32.ofInt y = Int32.ofInt (x.tdiv y) := (Int32.ofInt_tdiv (by show (-2147483648 : Int) ≤ x; omega) (by show x ≤ (2147483647 : Int); omega) (by show (-2147483648 : Int) ≤ y; omega) (by show y ≤ (2147483647 : Int); omega)).symm
  rw [e1]
  refine jw_n_id ?_
  have h1 : (x.tdiv y).natAbs ≤ x.natAbs := by
    rw [Int.natAbs_tdiv]
    exact Nat.div_le_self _ _
  by_cases hx : x = -2147483648
  · subst hx
    by_cases hy : y = 1
    · subst hy
      unfold jw_rg
      decide
    · have h2 : ((-2147483648 : Int).tdiv y).natAbs ≤ 1073741824 := by
        rw [Int.natAbs_tdiv]
        by_cases hy0 : y = 0
        · subst hy0
          decide
        · have h3 : 2 ≤ y.natAbs := by omega
          exact Nat.le_trans (Nat.div_le_div_left h3 (by omega)) (by decide)
      unfold jw_rg
      omega
  · unfold jw_rg
    omega
theorem jn_trem {x y : Int} (x0 : jw_rg x) (y0 : jw_rg y) : jw_rem x y = x.tmod y := by
  unfold jw_rem
  obtain ⟨a, b⟩ := x0
  obtain ⟨c, d⟩ := y0
  have e1 : Int32.ofInt x / Int32.ofInt y = Int32.ofInt (x.tdiv y) := (Int32.ofInt_tdiv (by show (-2147483648 : Int) ≤ x; omega) (by show x ≤ (2147483647 : Int); omega) (by show (-2147483648 : Int) ≤ y; omega) (by show y ≤ (2147483647 : Int); omega)).symm
  rw [e1, ← Int32.ofInt_mul, ← Int32.ofInt_sub]
  have e2 : x - x.tdiv y * y = x.tmod y := by rw [Int.tmod_def, Int.mul_comm]
  rw [e2]
  refine jw_n_id ?_
  have h1 : (x.tmod y).natAbs ≤ x.natAbs := by
    rw [Int.natAbs_tmod]
    exact Nat.mod_le _ _
  by_cases hx : 0 ≤ x
  · have := Int.tmod_nonneg y hx
    unfold jw_rg
    omega
  · have h3 := Int.tmod_nonneg y (a := -x) (by omega)
    rw [Int.neg_tmod] at h3
    unfold jw_rg
    omega
theorem jn_dv {x y : Int} (x0 : 0 ≤ x) (x1 : x ≤ 2147483647) (y0 : 0 < y) (y1 : y ≤ 2147483647) : jw_div x y = x / y := by
  rw [jn_tdiv (by unfold jw_rg; omega) (by unfold jw_rg; omega) (by omega), Int.tdiv_eq_ediv_of_nonneg x0]
/-- how many, and the first with the most, of the first k -/
def jn_wb (W : Int → Prop) (V : Int → Int) (k f m : Int) : Prop := (0 ≤ f ∧ f < k) ∧ W f ∧ m = V f ∧ ∀ p, 0 ≤ p → p < k → W p → V p ≤ m ∧ (p < f → V p < m)
def jn_ws (W : Int → Prop) (V : Int → Int) (k n f m : Int) : Prop := n = jx_cn W k.toNat ∧ ((n = 0 ∧ ∀ p, 0 ≤ p → p < k → ¬ W p) ∨ (0 < n ∧ jn_wb W V k f m))
theorem jn_ws_0 (W : Int → Prop) (V : Int → Int) (f m : Int) : jn_ws W V 0 0 f m := ⟨rfl, .inl ⟨rfl, fun p h0 h1 => by omega⟩⟩
theorem jn_ws_no {W : Int → Prop} {V : Int → Int} {k n f m : Int} (k0 : 0 ≤ k) (h : jn_ws W V k n f m) (hn : ¬ W k) : jn_ws W V (k + 1) n f m := by
  obtain ⟨h1, h2⟩ := h
  refine ⟨jx_cn_no k0 h1 hn, ?_⟩
  rcases h2 with ⟨a, b⟩ | ⟨a, b1, b2, b3, b4⟩
  · refine .inl ⟨a, fun p p0 p1 => ?_⟩
    by_cases e : p = k
    · rw [e]
      exact hn
    · exact b p p0 (by omega)
  · refine .inr ⟨a, by omega, b2, b3, fun p p0 p1 hp => ?_⟩
    by_cases e : p = k
    · rw [e] at hp
      exact absurd hp hn
    · exact b4 p p0 (by omega) hp
theorem jn_ws_new {W : Int → Prop} {V : Int → Int} {k n f m : Int} (k0 : 0 ≤ k) (h : jn_ws W V k n f m) (hy : W k) (hc : n = 0 ∨ m < V k) : jn_ws W V (k + 1) (n + 1) k (V k) := by
  obtain ⟨h1, h2⟩ := h
  refine ⟨jx_cn_yes k0 h1 hy, .inr ⟨?_, by omega, hy, rfl, fun p p0 p1 hp => ?_⟩⟩
  · rcases h2 with ⟨a, -⟩ | ⟨a, -⟩ <;> omega
  · by_cases e : p = k
    · rw [e]
      omega
    · rcases h2 with ⟨a, b⟩ | ⟨a, b1, b2, b3, b4⟩
      · exact absurd hp (b p p0 (by omega))
      · have := (b4 p p0 (by omega) hp).1
        omega
theorem jn_ws_old {W : Int → Prop} {V : Int → Int} {k n f m : Int} (k0 : 0 ≤ k) (h : jn_ws W V k n f m) (hy : W k) (hc : n ≠ 0) (hc2 : ¬ m < V k) : jn_ws W V (k + 1) (n + 1) f m := by
  obtain ⟨h1, h2⟩ := h
  refine ⟨jx_cn_yes k0 h1 hy, .inr ?_⟩
  rcases h2 with ⟨a, -⟩ | ⟨a, b1, b2, b3, b4⟩
  · exact absurd a hc
  · refine ⟨by omega, by omega, b2, b3, fun p p0 p1 hp => ?_⟩
    by_cases e : p = k
    · rw [e]
      omega
    · exact b4 p p0 (by omega) hp
theorem jn_ws_uq {W : Int → Prop} {V : Int → Int} {k n f m n' f' m' : Int} (h : jn_ws W V k n f m) (h' : jn_ws W V k n' f' m') : n = n' ∧ (n ≠ 0 → f = f' ∧ m = m') := by
  obtain ⟨h1, h2⟩ := h
  obtain ⟨g1, g2⟩ := h'
  refine ⟨h1.trans g1.symm, fun hn => ?_⟩
  rcases h2 with ⟨a, -⟩ | ⟨a, b1, b2, b3, b4⟩
  · exact absurd a hn
  · rcases g2 with ⟨c, -⟩ | ⟨c, d1, d2, d3, d4⟩
    · omega
    · have x1 := b4 f' d1.1 d1.2 d2
      have x2 := d4 f b1.1 b1.2 b2
      have e : f = f' := by omega
      subst e
      exact ⟨rfl, b3.trans d3.symm⟩
/-- a whole plan, told by its digits, that is allowed -/
def jn_wp (σ : jw_H) (p : Int) : Prop := jm_ip σ (p / 100) (p / 10 % 10) (p % 10) ∧ ge_F (jm_RR (σ 103 3) (jm_bA σ)) (p / 100, p / 10 % 10, p % 10, 1)
def jn_wv (G : ge_D) (p : Int) : Int := ge_f G (p / 100, p / 10 % 10, p % 10, 1)
theorem jn_wv_bd {G : ge_D} (hG : jx_Gb G) {p : Int} (p0 : 0 ≤ p) (p1 : p < 1000) : -437400 ≤ jn_wv G p ∧ jn_wv G p ≤ 437400 := by
  refine jx_f_bd hG ?_
  unfold jx_bd
  simp only
  omega
/-- the answer of whole -/
def jn_wha (σ : jw_H) (a b c t v : Int) : Prop := (v = -100000 ∧ ¬ (jm_wok a b c ∧ 0 ≤ t ∧ t ≤ 2)) ∨ ((jm_wok a b c ∧ 0 ≤ t ∧ t ≤ 2) ∧ ∃ n f m, jn_ws (jn_wp σ) (jn_wv (jm_gd3 σ a b c)) 1000 n f m ∧ v = if t = 0 then n else if n = 0 then -100000 else if t = 1 then m else f)
theorem jn_wha_uq {σ : jw_H} {a b c t u v : Int} (h1 : jn_wha σ a b c t u) (h2 : jn_wha σ a b c t v) : u = v := by
  rcases h1 with ⟨e1, a1⟩ | ⟨a1, n, f, m, hs, e1⟩ <;> rcases h2 with ⟨e2, a2⟩ | ⟨a2, n', f', m', hs', e2⟩
  · exact e1.trans e2.symm
  · exact absurd a2 a1
  · exact absurd a1 a2
  · obtain ⟨z1, z2⟩ := jn_ws_uq hs hs'
    subst z1
    by_cases hn : n = 0
    · rw [e1, e2, if_pos hn, if_pos hn]
    · obtain ⟨z3, z4⟩ := z2 hn
      rw [e1, e2, z3, z4]
theorem jn_wp_me {σ0 σ : jw_H} (h : jx_me σ0 σ) (hP : jm_Pb σ0) : jn_wp σ = jn_wp σ0 := by
  funext p
  unfold jn_wp jm_ip
  rw [jx_me_bA h hP, h 103 (by omega)]
theorem jn_wha_me {σ0 σ : jw_H} (h : jx_me σ0 σ) (hP : jm_Pb σ0) (a b c t v : Int) : jn_wha σ a b c t v ↔ jn_wha σ0 a b c t v := by
  unfold jn_wha
  rw [jn_wp_me h hP, jm_gd3_me h]
theorem jx_whole_loop {n : Nat} {σ : jw_H} {D : Nat} (hD : 4 ≤ D) {o : Nat} {C : List (ge_R × Int)} (hK : jx_K n o C σ) {a b2 c t : Int} {G : ge_D} (hGb : jx_Gb G) (hG : jx_G σ 100 0 = G) (ht : 0 ≤ t ∧ t ≤ 2) : ∀ (g : Nat) {k m f v : Int} {x9 x10 x11 x12 : Option jw_V}, 0 ≤ k → k + g = 1000 → (0 ≤ f ∧ f ≤ 1000) ∧ (-437400 ≤ v ∧ v ≤ 437400) ∧ (0 ≤ m ∧ m ≤ k) → jn_ws (jn_wp σ) (jn_wv G) k m f v → jw_W (js_S n) D md_141 26 [some (.inr (.inr 13)), some (.inl a), some (.inl b2), some (.inl c), some (.inl t), some (.inl m), some (.inl v), some (.inl f), some (.inl k), x9, x10, x11, x12] [] σ (fun r σ' => ∃ u, r = some (.inl u) ∧ σ' = σ ∧ ∃ n f v, jn_ws (jn_wp σ) (jn_wv G) 1000 n f v ∧ u = if t = 0 then n else if n = 0 then -100000 else if t = 1 then v else f)
  | g, k, m, f, v, x9, x10, x11, x12, k0, hk, hbb, H => by
    have ih : ∀ {m' f' v' : Int} {x9' x10' x11' x12' : Option jw_V}, k < 1000 → jn_ws (jn_wp σ) (jn_wv G) (k + 1) m' f' v' → (0 ≤ f' ∧ f' ≤ 1000) ∧ (-437400 ≤ v' ∧ v' ≤ 437400) ∧ (0 ≤ m' ∧ m' ≤ k + 1) → jw_W (js_S n) D md_141 26 [some (.inr (.inr 13)), some (.inl a), some (.inl b2), some (.inl c), some (.inl t), some (.inl m'), some (.inl v'), some (.inl f'), some (.inl (k + 1)), x9', x10', x11', x12'] [] σ (fun r σ' => ∃ u, r = some (.inl u) ∧ σ' = σ ∧ ∃ n f v, jn_ws (jn_wp σ) (jn_wv G) 1000 n f v ∧ u = if t = 0 then n else if n = 0 then -100000 else if t = 1 then v else f) := by
      intro m' f' v' x9' x10' x11' x12' h1 h2 hb2
      match g, hk with
      | 0, hk => omega
      | g + 1, hk => exact jx_whole_loop hD hK hGb hG ht g (by omega) (by omega) hb2 h2
    have hI := hK.1
    obtain ⟨hto, hfo, hp, hP, e0, e1, e2, hPm, hcb, c0, p0, -⟩ := jx_I0_x hI
    have ho := hp.1
    have hq := hP.1
    have hw := hP.2.1
    have hq2 := hP.2.2.1
    have hcn := hcb.1
    have dx1 : jw_div k 100 = k / 100 := jn_dv k0 (by omega) (by omega) (by omega)
    have dx2 : jw_div k 10 = k / 10 := jn_dv k0 (by omega) (by omega) (by omega)
    have dx3 : jw_rem (k / 10) 10 = k / 10 % 10 := jm_rem (by omega) (by omega) (by omega) (by omega)
    have dx4 : jw_rem k 10 = k % 10 := jm_rem k0 (by omega) (by omega) (by omega)
    refine jw_W_n 2 (i' := 28) (ls' := [some (.inr (.inr 13)), some (.inl a), some (.inl b2), some (.inl c), some (.inl t), some (.inl m), some (.inl v), some (.inl f), some (.inl k), x9, x10, x11, x12]) (st' := [.inl 1000, .inl k]) rfl ?_
    refine jw_W_ic rfl (by unfold jw_rg; omega) (by unfold jw_rg; omega) (fun hc1 => ?_) (fun hc1 => ?_)
    · have hc1 : k ≥ 1000 := hc1
      refine jw_W_n 1 (i' := 91) (ls' := [some (.inr (.inr 13)), some (.inl a), some (.inl b2), some (.inl c), some (.inl t), some (.inl m), some (.inl v), some (.inl f), some (.inl k), x9, x10, x11, x12]) (st' := [.inl t]) rfl ?_
      refine jw_W_if rfl (by unfold jw_rg; omega) (fun hc2 => ?_) (fun hc2 => ?_)
      · have hc2 : t ≠ 0 := hc2
        refine jw_W_n 1 (i' := 95) (ls' := [some (.inr (.inr 13)), some (.inl a), some (.inl b2), some (.inl c), some (.inl t), some (.inl m), some (.inl v), some (.inl f), some (.inl k), x9, x10, x11, x12]) (st' := [.inl m]) rfl ?_
        refine jw_W_if rfl (by unfold jw_rg; omega) (fun hc3 => ?_) (fun hc3 => ?_)
        · have hc3 : m ≠ 0 := hc3
          refine jw_W_n 2 (i' := 100) (ls' := [some (.inr (.inr 13)), some (.inl a), some (.inl b2), some (.inl c), some (.inl t), some (.inl m), some (.inl v), some (.inl f), some (.inl k), x9, x10, x11, x12]) (st' := [.inl 1, .inl t]) rfl ?_
          refine jw_W_ic rfl (by unfold jw_rg; omega) (by unfold jw_rg; omega) (fun hc4 => ?_) (fun hc4 => ?_)
          · have hc4 : t ≠ 1 := hc4
            refine jw_W_n 1 (i' := 104) (ls' := [some (.inr (.inr 13)), some (.inl a), some (.inl b2), some (.inl c), some (.inl t), some (.inl m), some (.inl v), some (.inl f), some (.inl k), x9, x10, x11, x12]) (st' := [.inl f]) rfl ?_
            refine jw_W_ir rfl ?_
            have hkl : k = 1000 := by omega
            subst hkl
            refine ⟨_, rfl, rfl, m, f, v, H, ?_⟩
            first | rw [if_pos (by omega)] | rw [if_neg (by omega), if_pos (by omega)] | rw [if_neg (by omega), if_neg (by omega), if_pos (by omega)] | rw [if_neg (by omega), if_neg (by omega), if_neg (by omega)]
          · have hc4 : t = 1 := Classical.not_not.mp hc4
            refine jw_W_n 2 (i' := 104) (ls' := [some (.inr (.inr 13)), some (.inl a), some (.inl b2), some (.inl c), some (.inl t), some (.inl m), some (.inl v), some (.inl f), some (.inl k), x9, x10, x11, x12]) (st' := [.inl v]) rfl ?_
            refine jw_W_ir rfl ?_
            have hkl : k = 1000 := by omega
            subst hkl
            refine ⟨_, rfl, rfl, m, f, v, H, ?_⟩
            first | rw [if_pos (by omega)] | rw [if_neg (by omega), if_pos (by omega)] | rw [if_neg (by omega), if_neg (by omega), if_pos (by omega)] | rw [if_neg (by omega), if_neg (by omega), if_neg (by omega)]
        · have hc3 : m = 0 := Classical.not_not.mp hc3
          refine jw_W_ldc (z := (-100000)) rfl rfl ?_
          refine jw_W_ir rfl ?_
          have hkl : k = 1000 := by omega
          subst hkl
          refine ⟨_, rfl, rfl, m, f, v, H, ?_⟩
          first | rw [if_pos (by omega)] | rw [if_neg (by omega), if_pos (by omega)] | rw [if_neg (by omega), if_neg (by omega), if_pos (by omega)] | rw [if_neg (by omega), if_neg (by omega), if_neg (by omega)]
      · have hc2 : t = 0 := Classical.not_not.mp hc2
        refine jw_W_n 1 (i' := 93) (ls' := [some (.inr (.inr 13)), some (.inl a), some (.inl b2), some (.inl c), some (.inl t), some (.inl m), some (.inl v), some (.inl f), some (.inl k), x9, x10, x11, x12]) (st' := [.inl m]) rfl ?_
        refine jw_W_ir rfl ?_
        have hkl : k = 1000 := by omega
        subst hkl
        refine ⟨_, rfl, rfl, m, f, v, H, ?_⟩
        first | rw [if_pos (by omega)] | rw [if_neg (by omega), if_pos (by omega)] | rw [if_neg (by omega), if_neg (by omega), if_pos (by omega)] | rw [if_neg (by omega), if_neg (by omega), if_neg (by omega)]
    · have hc1 : ¬ (k ≥ 1000) := hc1
      refine jw_W_n 2 (i' := 31) (ls' := [some (.inr (.inr 13)), some (.inl a), some (.inl b2), some (.inl c), some (.inl t), some (.inl m), some (.inl v), some (.inl f), some (.inl k), x9, x10, x11, x12]) (st' := [.inl 100, .inl k]) rfl ?_
      refine jw_W_idiv rfl (by unfold jw_rg; omega) (by omega) ?_
      rw [dx1]
      refine jw_W_n 3 (i' := 35) (ls' := [some (.inr (.inr 13)), some (.inl a), some (.inl b2), some (.inl c), some (.inl t), some (.inl m), some (.inl v), some (.inl f), some (.inl k), some (.inl (k / 100)), x10, x11, x12]) (st' := [.inl 10, .inl k]) rfl ?_
      refine jw_W_idiv rfl (by unfold jw_rg; omega) (by omega) ?_
      rw [dx2]
      refine jw_W_n 1 (i' := 37) (ls' := [some (.inr (.inr 13)), some (.inl a), some (.inl b2), some (.inl c), some (.inl t), some (.inl m), some (.inl v), some (.inl f), some (.inl k), some (.inl (k / 100)), x10, x11, x12]) (st' := [.inl 10, .inl (k / 10)]) rfl ?_
      refine jw_W_irem rfl (by unfold jw_rg; omega) (by omega) ?_
      rw [dx3]
      refine jw_W_n 3 (i' := 41) (ls' := [some (.inr (.inr 13)), some (.inl a), some (.inl b2), some (.inl c), some (.inl t), some (.inl m), some (.inl v), some (.inl f), some (.inl k), some (.inl (k / 100)), some (.inl (k / 10 % 10)), x11, x12]) (st' := [.inl 10, .inl k]) rfl ?_
      refine jw_W_irem rfl (by unfold jw_rg; omega) (by omega) ?_
      rw [dx4]
      refine jw_W_n 5 (i' := 47) (ls' := [some (.inr (.inr 13)), some (.inl a), some (.inl b2), some (.inl c), some (.inl t), some (.inl m), some (.inl v), some (.inl f), some (.inl k), some (.inl (k / 100)), some (.inl (k / 10 % 10)), some (.inl (k % 10)), x12]) (st' := [.inl (k % 10), .inl (k / 10 % 10), .inl (k / 100), .inr (.inr 13)]) rfl ?_
      refine jw_W_call (as := [.inr (.inr 13), .inl (k / 100), .inl (k / 10 % 10), .inl (k % 10)]) (rest := []) rfl rfl rfl rfl (Nat.le_of_ble_eq_true rfl) (.inr rfl) (jx_isWholePlan hK (by unfold jw_rg; omega) (by unfold jw_rg; omega) (by unfold jw_rg; omega)) (by omega) ?_ rfl
      rintro r1 σz (⟨rfl, hs, hip⟩ | ⟨rfl, hs, hip⟩)
      · rw [hs]
        show jw_W (js_S n) _ md_141 48 [some (.inr (.inr 13)), some (.inl a), some (.inl b2), some (.inl c), some (.inl t), some (.inl m), some (.inl v), some (.inl f), some (.inl k), some (.inl (k / 100)), some (.inl (k / 10 % 10)), some (.inl (k % 10)), x12] [.inl 1] σ _
        refine jw_W_if rfl (by unfold jw_rg; omega) (fun hc5 => ?_) (fun hc5 => ?_)
        · exact absurd hc5 (show ¬ ((1 : Int) = 0) by omega)
        · clear hc5
          refine jw_W_n 1 (i' := 50) (ls' := [some (.inr (.inr 13)), some (.inl a), some (.inl b2), some (.inl c), some (.inl t), some (.inl m), some (.inl v), some (.inl f), some (.inl k), some (.inl (k / 100)), some (.inl (k / 10 % 10)), some (.inl (k % 10)), x12]) (st' := [.inr (.inr 13)]) rfl ?_
          refine jw_W_gf rfl rfl rfl ?_
          show jw_W (js_S n) _ md_141 51 [some (.inr (.inr 13)), some (.inl a), some (.inl b2), some (.inl c), some (.inl t), some (.inl m), some (.inl v), some (.inl f), some (.inl k), some (.inl (k / 100)), some (.inl (k / 10 % 10)), some (.inl (k % 10)), x12] [.inr (.inr ((σ 13 2).toNat))] σ _
          rw [hto]
          refine jw_W_n 4 (i' := 55) (ls' := [some (.inr (.inr 13)), some (.inl a), some (.inl b2), some (.inl c), some (.inl t), some (.inl m), some (.inl v), some (.inl f), some (.inl k), some (.inl (k / 100)), some (.inl (k / 10 % 10)), some (.inl (k % 10)), x12]) (st' := [.inl 1, .inl (k % 10), .inl (k / 10 % 10), .inl (k / 100), .inr (.inr o)]) rfl ?_
          refine jw_W_call (as := [.inr (.inr o), .inl (k / 100), .inl (k / 10 % 10), .inl (k % 10), .inl 1]) (rest := []) rfl rfl rfl rfl (Nat.le_of_ble_eq_true rfl) (.inr (jx_rc hp.2.1)) (jx_allows hp hP (fun k k0 k1 => jx_pr_bd (jx_Pb_M hP) k0 k1 (jm_ip_bd hip))) (by omega) ?_ rfl
          rintro r1 σz (⟨rfl, hs, hal⟩ | ⟨rfl, hs, hal⟩)
          · rw [hs]
            have hF := (jx_ip_F hI hip).mp hal
            show jw_W (js_S n) _ md_141 56 [some (.inr (.inr 13)), some (.inl a), some (.inl b2), some (.inl c), some (.inl t), some (.inl m), some (.inl v), some (.inl f), some (.inl k), some (.inl (k / 100)), some (.inl (k / 10 % 10)), some (.inl (k % 10)), x12] [.inl 1] σ _
            refine jw_W_if rfl (by unfold jw_rg; omega) (fun hc6 => ?_) (fun hc6 => ?_)
            · exact absurd hc6 (show ¬ ((1 : Int) = 0) by omega)
            · clear hc6
              refine jw_W_n 1 (i' := 58) (ls' := [some (.inr (.inr 13)), some (.inl a), some (.inl b2), some (.inl c), some (.inl t), some (.inl m), some (.inl v), some (.inl f), some (.inl k), some (.inl (k / 100)), some (.inl (k / 10 % 10)), some (.inl (k % 10)), x12]) (st' := [.inr (.inr 13)]) rfl ?_
              refine jw_W_gf rfl rfl rfl ?_
              show jw_W (js_S n) _ md_141 59 [some (.inr (.inr 13)), some (.inl a), some (.inl b2), some (.inl c), some (.inl t), some (.inl m), some (.inl v), some (.inl f), some (.inl k), some (.inl (k / 100)), some (.inl (k / 10 % 10)), some (.inl (k % 10)), x12] [.inr (.inr 100)] σ _
              refine jw_W_n 1 (i' := 60) (ls' := [some (.inr (.inr 13)), some (.inl a), some (.inl b2), some (.inl c), some (.inl t), some (.inl m), some (.inl v), some (.inl f), some (.inl k), some (.inl (k / 100)), some (.inl (k / 10 % 10)), some (.inl (k % 10)), x12]) (st' := [.inl 0, .inr (.inr 100)]) rfl ?_
              refine jw_W_ia rfl rfl (by omega) (by omega) (by omega) ?_
              show jw_W (js_S n) _ md_141 61 [some (.inr (.inr 13)), some (.inl a), some (.inl b2), some (.inl c), some (.inl t), some (.inl m), some (.inl v), some (.inl f), some (.inl k), some (.inl (k / 100)), some (.inl (k / 10 % 10)), some (.inl (k % 10)), x12] [.inl (σ 100 0)] σ _
              refine jw_W_n 3 (i' := 64) (ls' := [some (.inr (.inr 13)), some (.inl a), some (.inl b2), some (.inl c), some (.inl t), some (.inl m), some (.inl v), some (.inl f), some (.inl k), some (.inl (k / 100)), some (.inl (k / 10 % 10)), some (.inl (k % 10)), x12]) (st' := [.inr (.inr 13), .inl ((σ 100 0) * (k / 100))]) rfl ?_
              refine jw_W_gf rfl rfl rfl ?_
              show jw_W (js_S n) _ md_141 65 [some (.inr (.inr 13)), some (.inl a), some (.inl b2), some (.inl c), some (.inl t), some (.inl m), some (.inl v), some (.inl f), some (.inl k), some (.inl (k / 100)), some (.inl (k / 10 % 10)), some (.inl (k % 10)), x12] [.inr (.inr 100), .inl ((σ 100 0) * (k / 100))] σ _
              refine jw_W_n 1 (i' := 66) (ls' := [some (.inr (.inr 13)), some (.inl a), some (.inl b2), some (.inl c), some (.inl t), some (.inl m), some (.inl v), some (.inl f), some (.inl k), some (.inl (k / 100)), some (.inl (k / 10 % 10)), some (.inl (k % 10)), x12]) (st' := [.inl 1, .inr (.inr 100), .inl ((σ 100 0) * (k / 100))]) rfl ?_
              refine jw_W_ia rfl rfl (by omega) (by omega) (by omega) ?_
              show jw_W (js_S n) _ md_141 67 [some (.inr (.inr 13)), some (.inl a), some (.inl b2), some (.inl c), some (.inl t), some (.inl m), some (.inl v), some (.inl f), some (.inl k), some (.inl (k / 100)), some (.inl (k / 10 % 10)), some (.inl (k % 10)), x12] [.inl (σ 100 1), .inl ((σ 100 0) * (k / 100))] σ _
              refine jw_W_n 4 (i' := 71) (ls' := [some (.inr (.inr 13)), some (.inl a), some (.inl b2), some (.inl c), some (.inl t), some (.inl m), some (.inl v), some (.inl f), some (.inl k), some (.inl (k / 100)), some (.inl (k / 10 % 10)), some (.inl (k % 10)), x12]) (st' := [.inr (.inr 13), .inl (((σ 100 0) * (k / 100)) + ((σ 100 1) * (k / 10 % 10)))]) rfl ?_
              refine jw_W_gf rfl rfl rfl ?_
              show jw_W (js_S n) _ md_141 72 [some (.inr (.inr 13)), some (.inl a), some (.inl b2), some (.inl c), some (.inl t), some (.inl m), some (.inl v), some (.inl f), some (.inl k), some (.inl (k / 100)), some (.inl (k / 10 % 10)), some (.inl (k % 10)), x12] [.inr (.inr 100), .inl (((σ 100 0) * (k / 100)) + ((σ 100 1) * (k / 10 % 10)))] σ _
              refine jw_W_n 1 (i' := 73) (ls' := [some (.inr (.inr 13)), some (.inl a), some (.inl b2), some (.inl c), some (.inl t), some (.inl m), some (.inl v), some (.inl f), some (.inl k), some (.inl (k / 100)), some (.inl (k / 10 % 10)), some (.inl (k % 10)), x12]) (st' := [.inl 2, .inr (.inr 100), .inl (((σ 100 0) * (k / 100)) + ((σ 100 1) * (k / 10 % 10)))]) rfl ?_
              refine jw_W_ia rfl rfl (by omega) (by omega) (by omega) ?_
              show jw_W (js_S n) _ md_141 74 [some (.inr (.inr 13)), some (.inl a), some (.inl b2), some (.inl c), some (.inl t), some (.inl m), some (.inl v), some (.inl f), some (.inl k), some (.inl (k / 100)), some (.inl (k / 10 % 10)), some (.inl (k % 10)), x12] [.inl (σ 100 2), .inl (((σ 100 0) * (k / 100)) + ((σ 100 1) * (k / 10 % 10)))] σ _
              refine jw_W_n 3 (i' := 77) (ls' := [some (.inr (.inr 13)), some (.inl a), some (.inl b2), some (.inl c), some (.inl t), some (.inl m), some (.inl v), some (.inl f), some (.inl k), some (.inl (k / 100)), some (.inl (k / 10 % 10)), some (.inl (k % 10)), x12]) (st' := [.inl ((((σ 100 0) * (k / 100)) + ((σ 100 1) * (k / 10 % 10))) + ((σ 100 2) * (k % 10)))]) rfl ?_
              have ev : (((σ 100 0) * (k / 100)) + ((σ 100 1) * (k / 10 % 10))) + ((σ 100 2) * (k % 10)) = jn_wv G k := by rw [← hG]; rfl
              rw [ev]
              have hvb := jn_wv_bd hGb k0 (by omega)
              refine jw_W_n 2 (i' := 79) (ls' := [some (.inr (.inr 13)), some (.inl a), some (.inl b2), some (.inl c), some (.inl t), some (.inl m), some (.inl v), some (.inl f), some (.inl k), some (.inl (k / 100)), some (.inl (k / 10 % 10)), some (.inl (k % 10)), some (.inl (jn_wv G k))]) (st' := [.inl m]) rfl ?_
              refine jw_W_if rfl (by unfold jw_rg; omega) (fun hc7 => ?_) (fun hc7 => ?_)
              · have hc7 : m = 0 := hc7
                refine jw_W_n 7 (i' := 26) (ls' := [some (.inr (.inr 13)), some (.inl a), some (.inl b2), some (.inl c), some (.inl t), some (.inl (m + 1)), some (.inl (jn_wv G k)), some (.inl k), some (.inl (k + 1)), some (.inl (k / 100)), some (.inl (k / 10 % 10)), some (.inl (k % 10)), some (.inl (jn_wv G k))]) (st' := []) rfl ?_
                exact ih (by omega) (jn_ws_new k0 H ⟨hip, hF⟩ (by omega)) (by omega)
              · have hc7 : ¬ (m = 0) := hc7
                refine jw_W_n 2 (i' := 82) (ls' := [some (.inr (.inr 13)), some (.inl a), some (.inl b2), some (.inl c), some (.inl t), some (.inl m), some (.inl v), some (.inl f), some (.inl k), some (.inl (k / 100)), some (.inl (k / 10 % 10)), some (.inl (k % 10)), some (.inl (jn_wv G k))]) (st' := [.inl v, .inl (jn_wv G k)]) rfl ?_
                refine jw_W_ic rfl (by unfold jw_rg; omega) (by unfold jw_rg; omega) (fun hc8 => ?_) (fun hc8 => ?_)
                · have hc8 : (jn_wv G k) ≤ v := hc8
                  refine jw_W_n 3 (i' := 26) (ls' := [some (.inr (.inr 13)), some (.inl a), some (.inl b2), some (.inl c), some (.inl t), some (.inl (m + 1)), some (.inl v), some (.inl f), some (.inl (k + 1)), some (.inl (k / 100)), some (.inl (k / 10 % 10)), some (.inl (k % 10)), some (.inl (jn_wv G k))]) (st' := []) rfl ?_
                  exact ih (by omega) (jn_ws_old k0 H ⟨hip, hF⟩ (by omega) (by omega)) (by omega)
                · have hc8 : ¬ ((jn_wv G k) ≤ v) := hc8
                  refine jw_W_n 7 (i' := 26) (ls' := [some (.inr (.inr 13)), some (.inl a), some (.inl b2), some (.inl c), some (.inl t), some (.inl (m + 1)), some (.inl (jn_wv G k)), some (.inl k), some (.inl (k + 1)), some (.inl (k / 100)), some (.inl (k / 10 % 10)), some (.inl (k % 10)), some (.inl (jn_wv G k))]) (st' := []) rfl ?_
                  exact ih (by omega) (jn_ws_new k0 H ⟨hip, hF⟩ (by omega)) (by omega)
          · rw [hs]
            show jw_W (js_S n) _ md_141 56 [some (.inr (.inr 13)), some (.inl a), some (.inl b2), some (.inl c), some (.inl t), some (.inl m), some (.inl v), some (.inl f), some (.inl k), some (.inl (k / 100)), some (.inl (k / 10 % 10)), some (.inl (k % 10)), x12] [.inl 0] σ _
            refine jw_W_if rfl (by unfold jw_rg; omega) (fun hc9 => ?_) (fun hc9 => ?_)
            · clear hc9
              refine jw_W_n 2 (i' := 26) (ls' := [some (.inr (.inr 13)), some (.inl a), some (.inl b2), some (.inl c), some (.inl t), some (.inl m), some (.inl v), some (.inl f), some (.inl (k + 1)), some (.inl (k / 100)), some (.inl (k / 10 % 10)), some (.inl (k % 10)), x12]) (st' := []) rfl ?_
              refine ih (by omega) (jn_ws_no k0 H (fun hh => ?_)) (by omega)
              first | exact hip hh.1 | exact hal ((jx_ip_F hI hip).mpr hh.2)
            · exact absurd hc9 (show ¬ ¬ ((0 : Int) = 0) by omega)
      · rw [hs]
        show jw_W (js_S n) _ md_141 48 [some (.inr (.inr 13)), some (.inl a), some (.inl b2), some (.inl c), some (.inl t), some (.inl m), some (.inl v), some (.inl f), some (.inl k), some (.inl (k / 100)), some (.inl (k / 10 % 10)), some (.inl (k % 10)), x12] [.inl 0] σ _
        refine jw_W_if rfl (by unfold jw_rg; omega) (fun hc10 => ?_) (fun hc10 => ?_)
        · clear hc10
          refine jw_W_n 2 (i' := 26) (ls' := [some (.inr (.inr 13)), some (.inl a), some (.inl b2), some (.inl c), some (.inl t), some (.inl m), some (.inl v), some (.inl f), some (.inl (k + 1)), some (.inl (k / 100)), some (.inl (k / 10 % 10)), some (.inl (k % 10)), x12]) (st' := []) rfl ?_
          refine ih (by omega) (jn_ws_no k0 H (fun hh => ?_)) (by omega)
          first | exact hip hh.1 | exact hal ((jx_ip_F hI hip).mpr hh.2)
        · exact absurd hc10 (show ¬ ¬ ((0 : Int) = 0) by omega)
theorem jx_whole {n : Nat} {σ : jw_H} {o : Nat} {C : List (ge_R × Int)} (hK : jx_K n o C σ) {a b2 c t : Int} (ra : jw_rg a) (rb : jw_rg b2) (rc : jw_rg c) (ht : jw_rg t) : jw_T (js_S n) 8 141 [.inr (.inr 13), .inl a, .inl b2, .inl c, .inl t] σ (fun r σ' => ∃ v, r = some (.inl v) ∧ jx_fy σ σ' ∧ jn_wha σ a b2 c t v) := by
  refine jw_T_of (D := 7) (M := mm_141) rfl (Nat.le_of_ble_eq_true rfl) (ls0 := [some (.inr (.inr 13)), some (.inl a), some (.inl b2), some (.inl c), some (.inl t), none, none, none, none, none, none, none, none]) rfl ?_ (by rintro _ _ ⟨_, rfl, -⟩; rfl)
  have hI := hK.1
  obtain ⟨hto, hfo, hp, hP, e0, e1, e2, hPm, hcb, c0, p0, -⟩ := jx_I0_x hI
  have ho := hp.1
  have hq := hP.1
  have hw := hP.2.1
  have hq2 := hP.2.2.1
  have hcn := hcb.1
  have rht := ht
  unfold jw_rg at rht
  refine jw_W_n 4 (i' := 4) (ls' := [some (.inr (.inr 13)), some (.inl a), some (.inl b2), some (.inl c), some (.inl t), none, none, none, none, none, none, none, none]) (st' := [.inl c, .inl b2, .inl a, .inr (.inr 13)]) rfl ?_
  refine jw_W_call (as := [.inr (.inr 13), .inl a, .inl b2, .inl c]) (rest := []) rfl rfl rfl rfl (Nat.le_of_ble_eq_true rfl) (.inr rfl) (jx_areWeights hK ra rb rc) (by omega) ?_ rfl
  rintro r1 σz (⟨rfl, hs, q1⟩ | ⟨rfl, hs, q1⟩)
  · rw [hs]
    show jw_W (js_S n) _ md_141 5 [some (.inr (.inr 13)), some (.inl a), some (.inl b2), some (.inl c), some (.inl t), none, none, none, none, none, none, none, none] [.inl 1] σ _
    refine jw_W_if rfl (by unfold jw_rg; omega) (fun hc1 => ?_) (fun hc1 => ?_)
    · exact absurd hc1 (show ¬ ((1 : Int) = 0) by omega)
    · clear hc1
      refine jw_W_n 1 (i' := 7) (ls' := [some (.inr (.inr 13)), some (.inl a), some (.inl b2), some (.inl c), some (.inl t), none, none, none, none, none, none, none, none]) (st' := [.inl t]) rfl ?_
      refine jw_W_if rfl (by unfold jw_rg; omega) (fun hc2 => ?_) (fun hc2 => ?_)
      · have hc2 : t < 0 := hc2
        refine jw_W_ldc (z := (-100000)) rfl rfl ?_
        refine jw_W_ir rfl ?_
        exact ⟨_, rfl, jx_fy_rf σ, .inl ⟨rfl, fun hh => by obtain ⟨z1, z2⟩ := hh; first | omega | exact absurd z1 (by assumption)⟩⟩
      · have hc2 : ¬ (t < 0) := hc2
        refine jw_W_n 2 (i' := 10) (ls' := [some (.inr (.inr 13)), some (.inl a), some (.inl b2), some (.inl c), some (.inl t), none, none, none, none, none, none, none, none]) (st' := [.inl 2, .inl t]) rfl ?_
        refine jw_W_ic rfl (by unfold jw_rg; omega) (by unfold jw_rg; omega) (fun hc3 => ?_) (fun hc3 => ?_)
        · have hc3 : t ≤ 2 := hc3
          refine jw_W_n 4 (i' := 17) (ls' := [some (.inr (.inr 13)), some (.inl a), some (.inl b2), some (.inl c), some (.inl t), none, none, none, none, none, none, none, none]) (st' := [.inl c, .inl b2, .inl a, .inr (.inr 13)]) rfl ?_
          refine jw_W_call (as := [.inr (.inr 13), .inl a, .inl b2, .inl c]) (rest := []) rfl rfl rfl rfl (Nat.le_of_ble_eq_true rfl) (.inr rfl) (jx_aim hK (by assumption)) (by omega) ?_ rfl
          rintro r1 σ1 ⟨rfl, hgl⟩
          have hf1 := jx_gl_y hgl
          have hK1 := jx_K_y hf1 hK
          have hme1 := jx_fx_me (jx_fy_x hf1)
          have hwk : jm_wok a b2 c := by assumption
          have hGb := jm_gd3_Gb hPm hwk
          have eG : jx_G σ1 100 0 = jm_gd3 σ a b2 c := jx_gl_G hgl
          show jw_W (js_S n) _ md_141 18 [some (.inr (.inr 13)), some (.inl a), some (.inl b2), some (.inl c), some (.inl t), none, none, none, none, none, none, none, none] [] σ1 _
          refine jw_W_n 8 (i' := 26) (ls' := [some (.inr (.inr 13)), some (.inl a), some (.inl b2), some (.inl c), some (.inl t), some (.inl 0), some (.inl 0), some (.inl 0), some (.inl 0), none, none, none, none]) (st' := []) rfl ?_
          refine jw_W_mono (jx_whole_loop (D := 7) (by omega) hK1 hGb eG (by omega) 1000 (k := 0) (m := 0) (f := 0) (v := 0) (by omega) (by omega) (by omega) (jn_ws_0 _ _ _ _)) ?_
          rintro r σ' ⟨u, rfl, hs, n', f', v', hh, hu⟩
          rw [hs]
          rw [jn_wp_me hme1 hPm] at hh
          exact ⟨_, rfl, hf1, .inr ⟨⟨hwk, by omega⟩, n', f', v', hh, hu⟩⟩
        · have hc3 : ¬ (t ≤ 2) := hc3
          refine jw_W_ldc (z := (-100000)) rfl rfl ?_
          refine jw_W_ir rfl ?_
          exact ⟨_, rfl, jx_fy_rf σ, .inl ⟨rfl, fun hh => by obtain ⟨z1, z2⟩ := hh; first | omega | exact absurd z1 (by assumption)⟩⟩
  · rw [hs]
    show jw_W (js_S n) _ md_141 5 [some (.inr (.inr 13)), some (.inl a), some (.inl b2), some (.inl c), some (.inl t), none, none, none, none, none, none, none, none] [.inl 0] σ _
    refine jw_W_if rfl (by unfold jw_rg; omega) (fun hc4 => ?_) (fun hc4 => ?_)
    · clear hc4
      refine jw_W_ldc (z := (-100000)) rfl rfl ?_
      refine jw_W_ir rfl ?_
      exact ⟨_, rfl, jx_fy_rf σ, .inl ⟨rfl, fun hh => by obtain ⟨z1, z2⟩ := hh; first | omega | exact absurd z1 (by assumption)⟩⟩
    · exact absurd hc4 (show ¬ ¬ ((0 : Int) = 0) by omega)
theorem jm_whole_loop {n : Nat} {σ : jw_H} {C : List (ge_R × Int)} (hKN : jm_KN σ C) {a b2 c t : Int} {G : ge_D} (hw3 : ∀ k, 0 ≤ k → k < 3 → 0 ≤ σ 142 k ∧ σ 142 k ≤ 9) (hGb : jx_Gb G) (hG : jm_gk σ (σ 142) (σ 103 4).toNat = G) (ht : 0 ≤ t ∧ t ≤ 2) : ∀ (g : Nat) {k m f v : Int} {x10 x11 x12 x13 x14 : Option jw_V}, 0 ≤ k → k + g = 1000 → ((m = 0 ∧ f = -100000 ∧ v = -100000) ∨ ((0 ≤ f ∧ f ≤ 1000) ∧ (-437400 ≤ v ∧ v ≤ 437400))) ∧ (0 ≤ m ∧ m ≤ k) → (m = 0 → f = -100000 ∧ v = -100000) → jn_ws (jn_wp σ) (jn_wv G) k m f v → jw_W (js_S n) 3 md_307 21 [some (.inr (.inr 103)), some (.inl a), some (.inl b2), some (.inl c), some (.inl t), some (.inl m), some (.inl f), some (.inr (.inl v)), none, some (.inl k), x10, x11, x12, x13, x14] [] σ (fun r σ' => ∃ u, r = some (.inl u) ∧ σ' = σ ∧ ∃ n f v, jn_ws (jn_wp σ) (jn_wv G) 1000 n f v ∧ u = if t = 0 then n else if n = 0 then -100000 else if t = 1 then v else f)
  | g, k, m, f, v, x10, x11, x12, x13, x14, k0, hk, hbb, hz, H => by
    have ih : ∀ {m' f' v' : Int} {x10' x11' x12' x13' x14' : Option jw_V}, k < 1000 → jn_ws (jn_wp σ) (jn_wv G) (k + 1) m' f' v' → ((m' = 0 ∧ f' = -100000 ∧ v' = -100000) ∨ ((0 ≤ f' ∧ f' ≤ 1000) ∧ (-437400 ≤ v' ∧ v' ≤ 437400))) ∧ (0 ≤ m' ∧ m' ≤ k + 1) → (m' = 0 → f' = -100000 ∧ v' = -100000) → jw_W (js_S n) 3 md_307 21 [some (.inr (.inr 103)), some (.inl a), some (.inl b2), some (.inl c), some (.inl t), some (.inl m'), some (.inl f'), some (.inr (.inl v')), none, some (.inl (k + 1)), x10', x11', x12', x13', x14'] [] σ (fun r σ' => ∃ u, r = some (.inl u) ∧ σ' = σ ∧ ∃ n f v, jn_ws (jn_wp σ) (jn_wv G) 1000 n f v ∧ u = if t = 0 then n else if n = 0 then -100000 else if t = 1 then v else f) := by
      intro m' f' v' x10' x11' x12' x13' x14' h1 h2 hb2 hz2
      match g, hk with
      | 0, hk => omega
      | g + 1, hk => exact jm_whole_loop hKN hw3 hGb hG ht g (by omega) (by omega) hb2 hz2 h2
    have hcb := (jm_kw_cbd hKN.1).2 σ (jm_fk_rf σ)
    have hcn := hcb.1
    have hPm := hKN.1.1
    have hqq := hPm.1
    have hww := hPm.2.1
    have hkk := hPm.2.2.1
    have hg57 := hKN.2.2.1.1
    have hg58 := hKN.2.2.2.1.1
    have dx1 : jw_div k 100 = k / 100 := jn_dv k0 (by omega) (by omega) (by omega)
    have dx2 : jw_div k 10 = k / 10 := jn_dv k0 (by omega) (by omega) (by omega)
    have dx3 : jw_rem (k / 10) 10 = k / 10 % 10 := jm_rem (by omega) (by omega) (by omega) (by omega)
    have dx4 : jw_rem k 10 = k % 10 := jm_rem k0 (by omega) (by omega) (by omega)
    refine jw_W_n 2 (i' := 23) (ls' := [some (.inr (.inr 103)), some (.inl a), some (.inl b2), some (.inl c), some (.inl t), some (.inl m), some (.inl f), some (.inr (.inl v)), none, some (.inl k), x10, x11, x12, x13, x14]) (st' := [.inl 1000, .inl k]) rfl ?_
    refine jw_W_ic rfl (by unfold jw_rg; omega) (by unfold jw_rg; omega) (fun hc1 => ?_) (fun hc1 => ?_)
    · have hc1 : k ≥ 1000 := hc1
      refine jw_W_n 1 (i' := 82) (ls' := [some (.inr (.inr 103)), some (.inl a), some (.inl b2), some (.inl c), some (.inl t), some (.inl m), some (.inl f), some (.inr (.inl v)), none, some (.inl k), x10, x11, x12, x13, x14]) (st' := [.inl t]) rfl ?_
      refine jw_W_if rfl (by unfold jw_rg; omega) (fun hc2 => ?_) (fun hc2 => ?_)
      · have hc2 : t ≠ 0 := hc2
        refine jw_W_n 2 (i' := 87) (ls' := [some (.inr (.inr 103)), some (.inl a), some (.inl b2), some (.inl c), some (.inl t), some (.inl m), some (.inl f), some (.inr (.inl v)), none, some (.inl k), x10, x11, x12, x13, x14]) (st' := [.inl 1, .inl t]) rfl ?_
        refine jw_W_ic rfl (by unfold jw_rg; omega) (by unfold jw_rg; omega) (fun hc3 => ?_) (fun hc3 => ?_)
        · have hc3 : t ≠ 1 := hc3
          refine jw_W_n 1 (i' := 92) (ls' := [some (.inr (.inr 103)), some (.inl a), some (.inl b2), some (.inl c), some (.inl t), some (.inl m), some (.inl f), some (.inr (.inl v)), none, some (.inl k), x10, x11, x12, x13, x14]) (st' := [.inl f]) rfl ?_
          refine jw_W_ir rfl ?_
          have hkl : k = 1000 := by omega
          subst hkl
          refine ⟨_, rfl, rfl, m, f, v, H, ?_⟩
          by_cases ht0 : t = 0
          · rw [if_pos ht0]
            all_goals omega
          · rw [if_neg ht0]
            by_cases hm0 : m = 0
            · rw [if_pos hm0]
              rcases hbb.1 with hh | hh
              · omega
              · have h5 := H.2
                have := hz hm0
                omega
            · rw [if_neg hm0]
              by_cases ht1 : t = 1
              · rw [if_pos ht1]
                all_goals omega
              · rw [if_neg ht1]
                all_goals omega
        · have hc3 : t = 1 := Classical.not_not.mp hc3
          refine jw_W_n 3 (i' := 92) (ls' := [some (.inr (.inr 103)), some (.inl a), some (.inl b2), some (.inl c), some (.inl t), some (.inl m), some (.inl f), some (.inr (.inl v)), none, some (.inl k), x10, x11, x12, x13, x14]) (st' := [.inl v]) rfl ?_
          refine jw_W_ir rfl ?_
          have hkl : k = 1000 := by omega
          subst hkl
          refine ⟨_, rfl, rfl, m, f, v, H, ?_⟩
          by_cases ht0 : t = 0
          · rw [if_pos ht0]
            all_goals omega
          · rw [if_neg ht0]
            by_cases hm0 : m = 0
            · rw [if_pos hm0]
              rcases hbb.1 with hh | hh
              · omega
              · have h5 := H.2
                have := hz hm0
                omega
            · rw [if_neg hm0]
              by_cases ht1 : t = 1
              · rw [if_pos ht1]
                all_goals omega
              · rw [if_neg ht1]
                all_goals omega
      · have hc2 : t = 0 := Classical.not_not.mp hc2
        refine jw_W_n 2 (i' := 92) (ls' := [some (.inr (.inr 103)), some (.inl a), some (.inl b2), some (.inl c), some (.inl t), some (.inl m), some (.inl f), some (.inr (.inl v)), none, some (.inl k), x10, x11, x12, x13, x14]) (st' := [.inl m]) rfl ?_
        refine jw_W_ir rfl ?_
        have hkl : k = 1000 := by omega
        subst hkl
        refine ⟨_, rfl, rfl, m, f, v, H, ?_⟩
        by_cases ht0 : t = 0
        · rw [if_pos ht0]
          all_goals omega
        · rw [if_neg ht0]
          by_cases hm0 : m = 0
          · rw [if_pos hm0]
            rcases hbb.1 with hh | hh
            · omega
            · have h5 := H.2
              have := hz hm0
              omega
          · rw [if_neg hm0]
            by_cases ht1 : t = 1
            · rw [if_pos ht1]
              all_goals omega
            · rw [if_neg ht1]
              all_goals omega
    · have hc1 : ¬ (k ≥ 1000) := hc1
      refine jw_W_n 2 (i' := 26) (ls' := [some (.inr (.inr 103)), some (.inl a), some (.inl b2), some (.inl c), some (.inl t), some (.inl m), some (.inl f), some (.inr (.inl v)), none, some (.inl k), x10, x11, x12, x13, x14]) (st' := [.inl 100, .inl k]) rfl ?_
      refine jw_W_idiv rfl (by unfold jw_rg; omega) (by omega) ?_
      rw [dx1]
      refine jw_W_n 3 (i' := 30) (ls' := [some (.inr (.inr 103)), some (.inl a), some (.inl b2), some (.inl c), some (.inl t), some (.inl m), some (.inl f), some (.inr (.inl v)), none, some (.inl k), some (.inl (k / 100)), x11, x12, x13, x14]) (st' := [.inl 10, .inl k]) rfl ?_
      refine jw_W_idiv rfl (by unfold jw_rg; omega) (by omega) ?_
      rw [dx2]
      refine jw_W_n 1 (i' := 32) (ls' := [some (.inr (.inr 103)), some (.inl a), some (.inl b2), some (.inl c), some (.inl t), some (.inl m), some (.inl f), some (.inr (.inl v)), none, some (.inl k), some (.inl (k / 100)), x11, x12, x13, x14]) (st' := [.inl 10, .inl (k / 10)]) rfl ?_
      refine jw_W_irem rfl (by unfold jw_rg; omega) (by omega) ?_
      rw [dx3]
      refine jw_W_n 3 (i' := 36) (ls' := [some (.inr (.inr 103)), some (.inl a), some (.inl b2), some (.inl c), some (.inl t), some (.inl m), some (.inl f), some (.inr (.inl v)), none, some (.inl k), some (.inl (k / 100)), some (.inl (k / 10 % 10)), x12, x13, x14]) (st' := [.inl 10, .inl k]) rfl ?_
      refine jw_W_irem rfl (by unfold jw_rg; omega) (by omega) ?_
      rw [dx4]
      refine jw_W_n 5 (i' := 42) (ls' := [some (.inr (.inr 103)), some (.inl a), some (.inl b2), some (.inl c), some (.inl t), some (.inl m), some (.inl f), some (.inr (.inl v)), none, some (.inl k), some (.inl (k / 100)), some (.inl (k / 10 % 10)), some (.inl (k % 10)), x13, x14]) (st' := [.inl (k % 10), .inl (k / 10 % 10), .inl (k / 100), .inr (.inr 103)]) rfl ?_
      refine jw_W_call (as := [.inr (.inr 103), .inl (k / 100), .inl (k / 10 % 10), .inl (k % 10)]) (rest := []) rfl rfl rfl rfl (Nat.le_of_ble_eq_true rfl) (.inr rfl) (jm_isPlan hPm (by unfold jw_rg; omega) (by unfold jw_rg; omega) (by unfold jw_rg; omega)) (by omega) ?_ rfl
      rintro r1 σz (⟨rfl, hs, hip⟩ | ⟨rfl, hs, hip⟩)
      · rw [hs]
        show jw_W (js_S n) _ md_307 43 [some (.inr (.inr 103)), some (.inl a), some (.inl b2), some (.inl c), some (.inl t), some (.inl m), some (.inl f), some (.inr (.inl v)), none, some (.inl k), some (.inl (k / 100)), some (.inl (k / 10 % 10)), some (.inl (k % 10)), x13, x14] [.inl 1] σ _
        refine jw_W_if rfl (by unfold jw_rg; omega) (fun hc4 => ?_) (fun hc4 => ?_)
        · exact absurd hc4 (show ¬ ((1 : Int) = 0) by omega)
        · clear hc4
          refine jw_W_n 4 (i' := 48) (ls' := [some (.inr (.inr 103)), some (.inl a), some (.inl b2), some (.inl c), some (.inl t), some (.inl m), some (.inl f), some (.inr (.inl v)), none, some (.inl k), some (.inl (k / 100)), some (.inl (k / 10 % 10)), some (.inl (k % 10)), x13, x14]) (st' := [.inl (k % 10), .inl (k / 10 % 10), .inl (k / 100), .inr (.inr 103)]) rfl ?_
          refine jw_W_call (as := [.inr (.inr 103), .inl (k / 100), .inl (k / 10 % 10), .inl (k % 10)]) (rest := []) rfl rfl rfl rfl (Nat.le_of_ble_eq_true rfl) (.inr rfl) (jm_isAllowed hPm hip) (by omega) ?_ rfl
          rintro r1 σz (⟨rfl, hs, hal⟩ | ⟨rfl, hs, hal⟩)
          · rw [hs]
            show jw_W (js_S n) _ md_307 49 [some (.inr (.inr 103)), some (.inl a), some (.inl b2), some (.inl c), some (.inl t), some (.inl m), some (.inl f), some (.inr (.inl v)), none, some (.inl k), some (.inl (k / 100)), some (.inl (k / 10 % 10)), some (.inl (k % 10)), x13, x14] [.inl 1] σ _
            refine jw_W_if rfl (by unfold jw_rg; omega) (fun hc5 => ?_) (fun hc5 => ?_)
            · exact absurd hc5 (show ¬ ((1 : Int) = 0) by omega)
            · clear hc5
              refine jw_W_n 2 (i' := 52) (ls' := [some (.inr (.inr 103)), some (.inl a), some (.inl b2), some (.inl c), some (.inl t), some (.inl m), some (.inl f), some (.inr (.inl v)), none, some (.inl k), some (.inl (k / 100)), some (.inl (k / 10 % 10)), some (.inl (k % 10)), x13, x14]) (st' := [.inl (k / 100), .inr (.inr 103)]) rfl ?_
              refine jw_W_i2l rfl (by unfold jw_rg; omega) ?_
              refine jw_W_n 1 (i' := 54) (ls' := [some (.inr (.inr 103)), some (.inl a), some (.inl b2), some (.inl c), some (.inl t), some (.inl m), some (.inl f), some (.inr (.inl v)), none, some (.inl k), some (.inl (k / 100)), some (.inl (k / 10 % 10)), some (.inl (k % 10)), x13, x14]) (st' := [.inl (k / 10 % 10), .inr (.inl (k / 100)), .inr (.inr 103)]) rfl ?_
              refine jw_W_i2l rfl (by unfold jw_rg; omega) ?_
              refine jw_W_n 1 (i' := 56) (ls' := [some (.inr (.inr 103)), some (.inl a), some (.inl b2), some (.inl c), some (.inl t), some (.inl m), some (.inl f), some (.inr (.inl v)), none, some (.inl k), some (.inl (k / 100)), some (.inl (k / 10 % 10)), some (.inl (k % 10)), x13, x14]) (st' := [.inl (k % 10), .inr (.inl (k / 10 % 10)), .inr (.inl (k / 100)), .inr (.inr 103)]) rfl ?_
              refine jw_W_i2l rfl (by unfold jw_rg; omega) ?_
              refine jw_W_call (as := [.inr (.inr 103), .inr (.inl (k / 100)), .inr (.inl (k / 10 % 10)), .inr (.inl (k % 10))]) (rest := []) rfl rfl rfl rfl (Nat.le_of_ble_eq_true rfl) (.inr rfl) (jm_weighed hKN hw3) (by omega) ?_ rfl
              rintro r1 σz ⟨rfl, hs⟩
              rw [hs]
              rw [hG]
              rw [show G.1 * (k / 100) + G.2.1 * (k / 10 % 10) + G.2.2 * (k % 10) = jn_wv G k from rfl]
              have hvb := jn_wv_bd hGb k0 (by omega)
              show jw_W (js_S n) _ md_307 58 [some (.inr (.inr 103)), some (.inl a), some (.inl b2), some (.inl c), some (.inl t), some (.inl m), some (.inl f), some (.inr (.inl v)), none, some (.inl k), some (.inl (k / 100)), some (.inl (k / 10 % 10)), some (.inl (k % 10)), x13, x14] [.inr (.inl (jn_wv G k))] σ _
              refine jw_W_n 2 (i' := 60) (ls' := [some (.inr (.inr 103)), some (.inl a), some (.inl b2), some (.inl c), some (.inl t), some (.inl m), some (.inl f), some (.inr (.inl v)), none, some (.inl k), some (.inl (k / 100)), some (.inl (k / 10 % 10)), some (.inl (k % 10)), some (.inr (.inl (jn_wv G k))), none]) (st' := [.inl m]) rfl ?_
              refine jw_W_if rfl (by unfold jw_rg; omega) (fun hc6 => ?_) (fun hc6 => ?_)
              · have hc6 : m = 0 := hc6
                refine jw_W_n 3 (i' := 68) (ls' := [some (.inr (.inr 103)), some (.inl a), some (.inl b2), some (.inl c), some (.inl t), some (.inl m), some (.inl k), some (.inr (.inl v)), none, some (.inl k), some (.inl (k / 100)), some (.inl (k / 10 % 10)), some (.inl (k % 10)), some (.inr (.inl (jn_wv G k))), none]) (st' := [.inl m]) rfl ?_
                refine jw_W_if rfl (by unfold jw_rg; omega) (fun hc7 => ?_) (fun hc7 => ?_)
                · have hc7 : m = 0 := hc7
                  refine jw_W_n 8 (i' := 21) (ls' := [some (.inr (.inr 103)), some (.inl a), some (.inl b2), some (.inl c), some (.inl t), some (.inl (m + 1)), some (.inl k), some (.inr (.inl (jn_wv G k))), none, some (.inl (k + 1)), some (.inl (k / 100)), some (.inl (k / 10 % 10)), some (.inl (k % 10)), some (.inr (.inl (jn_wv G k))), none]) (st' := []) rfl ?_
                  exact ih (by omega) (jn_ws_new k0 H ⟨hip, hal⟩ (by omega)) (by omega) (by omega)
                · have hc7 : ¬ (m = 0) := hc7
                  refine jw_W_n 2 (i' := 71) (ls' := [some (.inr (.inr 103)), some (.inl a), some (.inl b2), some (.inl c), some (.inl t), some (.inl m), some (.inl k), some (.inr (.inl v)), none, some (.inl k), some (.inl (k / 100)), some (.inl (k / 10 % 10)), some (.inl (k % 10)), some (.inr (.inl (jn_wv G k))), none]) (st' := [.inr (.inl v), .inr (.inl (jn_wv G k))]) rfl ?_
                  refine jw_W_lc rfl rfl (by unfold jw_rgl; omega) (by unfold jw_rgl; omega) (fun hc8 => ?_) (fun hc8 => ?_)
                  · have hc8 : (jn_wv G k) ≤ v := hc8
                    refine jw_W_n 6 (i' := 21) (ls' := [some (.inr (.inr 103)), some (.inl a), some (.inl b2), some (.inl c), some (.inl t), some (.inl (m + 1)), some (.inl k), some (.inr (.inl v)), none, some (.inl (k + 1)), some (.inl (k / 100)), some (.inl (k / 10 % 10)), some (.inl (k % 10)), some (.inr (.inl (jn_wv G k))), none]) (st' := []) rfl ?_
                    omega
                  · have hc8 : ¬ ((jn_wv G k) ≤ v) := hc8
                    refine jw_W_n 8 (i' := 21) (ls' := [some (.inr (.inr 103)), some (.inl a), some (.inl b2), some (.inl c), some (.inl t), some (.inl (m + 1)), some (.inl k), some (.inr (.inl (jn_wv G k))), none, some (.inl (k + 1)), some (.inl (k / 100)), some (.inl (k / 10 % 10)), some (.inl (k % 10)), some (.inr (.inl (jn_wv G k))), none]) (st' := []) rfl ?_
                    exact ih (by omega) (jn_ws_new k0 H ⟨hip, hal⟩ (by omega)) (by omega) (by omega)
              · have hc6 : ¬ (m = 0) := hc6
                refine jw_W_n 2 (i' := 63) (ls' := [some (.inr (.inr 103)), some (.inl a), some (.inl b2), some (.inl c), some (.inl t), some (.inl m), some (.inl f), some (.inr (.inl v)), none, some (.inl k), some (.inl (k / 100)), some (.inl (k / 10 % 10)), some (.inl (k % 10)), some (.inr (.inl (jn_wv G k))), none]) (st' := [.inr (.inl v), .inr (.inl (jn_wv G k))]) rfl ?_
                refine jw_W_lc rfl rfl (by unfold jw_rgl; omega) (by unfold jw_rgl; omega) (fun hc9 => ?_) (fun hc9 => ?_)
                · have hc9 : (jn_wv G k) ≤ v := hc9
                  refine jw_W_n 1 (i' := 68) (ls' := [some (.inr (.inr 103)), some (.inl a), some (.inl b2), some (.inl c), some (.inl t), some (.inl m), some (.inl f), some (.inr (.inl v)), none, some (.inl k), some (.inl (k / 100)), some (.inl (k / 10 % 10)), some (.inl (k % 10)), some (.inr (.inl (jn_wv G k))), none]) (st' := [.inl m]) rfl ?_
                  refine jw_W_if rfl (by unfold jw_rg; omega) (fun hc10 => ?_) (fun hc10 => ?_)
                  · have hc10 : m = 0 := hc10
                    refine jw_W_n 8 (i' := 21) (ls' := [some (.inr (.inr 103)), some (.inl a), some (.inl b2), some (.inl c), some (.inl t), some (.inl (m + 1)), some (.inl f), some (.inr (.inl (jn_wv G k))), none, some (.inl (k + 1)), some (.inl (k / 100)), some (.inl (k / 10 % 10)), some (.inl (k % 10)), some (.inr (.inl (jn_wv G k))), none]) (st' := []) rfl ?_
                    omega
                  · have hc10 : ¬ (m = 0) := hc10
                    refine jw_W_n 2 (i' := 71) (ls' := [some (.inr (.inr 103)), some (.inl a), some (.inl b2), some (.inl c), some (.inl t), some (.inl m), some (.inl f), some (.inr (.inl v)), none, some (.inl k), some (.inl (k / 100)), some (.inl (k / 10 % 10)), some (.inl (k % 10)), some (.inr (.inl (jn_wv G k))), none]) (st' := [.inr (.inl v), .inr (.inl (jn_wv G k))]) rfl ?_
                    refine jw_W_lc rfl rfl (by unfold jw_rgl; omega) (by unfold jw_rgl; omega) (fun hc11 => ?_) (fun hc11 => ?_)
                    · have hc11 : (jn_wv G k) ≤ v := hc11
                      refine jw_W_n 6 (i' := 21) (ls' := [some (.inr (.inr 103)), some (.inl a), some (.inl b2), some (.inl c), some (.inl t), some (.inl (m + 1)), some (.inl f), some (.inr (.inl v)), none, some (.inl (k + 1)), some (.inl (k / 100)), some (.inl (k / 10 % 10)), some (.inl (k % 10)), some (.inr (.inl (jn_wv G k))), none]) (st' := []) rfl ?_
                      exact ih (by omega) (jn_ws_old k0 H ⟨hip, hal⟩ (by omega) (by omega)) (by omega) (by omega)
                    · have hc11 : ¬ ((jn_wv G k) ≤ v) := hc11
                      refine jw_W_n 8 (i' := 21) (ls' := [some (.inr (.inr 103)), some (.inl a), some (.inl b2), some (.inl c), some (.inl t), some (.inl (m + 1)), some (.inl f), some (.inr (.inl (jn_wv G k))), none, some (.inl (k + 1)), some (.inl (k / 100)), some (.inl (k / 10 % 10)), some (.inl (k % 10)), some (.inr (.inl (jn_wv G k))), none]) (st' := []) rfl ?_
                      omega
                · have hc9 : ¬ ((jn_wv G k) ≤ v) := hc9
                  refine jw_W_n 3 (i' := 68) (ls' := [some (.inr (.inr 103)), some (.inl a), some (.inl b2), some (.inl c), some (.inl t), some (.inl m), some (.inl k), some (.inr (.inl v)), none, some (.inl k), some (.inl (k / 100)), some (.inl (k / 10 % 10)), some (.inl (k % 10)), some (.inr (.inl (jn_wv G k))), none]) (st' := [.inl m]) rfl ?_
                  refine jw_W_if rfl (by unfold jw_rg; omega) (fun hc12 => ?_) (fun hc12 => ?_)
                  · have hc12 : m = 0 := hc12
                    refine jw_W_n 8 (i' := 21) (ls' := [some (.inr (.inr 103)), some (.inl a), some (.inl b2), some (.inl c), some (.inl t), some (.inl (m + 1)), some (.inl k), some (.inr (.inl (jn_wv G k))), none, some (.inl (k + 1)), some (.inl (k / 100)), some (.inl (k / 10 % 10)), some (.inl (k % 10)), some (.inr (.inl (jn_wv G k))), none]) (st' := []) rfl ?_
                    exact ih (by omega) (jn_ws_new k0 H ⟨hip, hal⟩ (by omega)) (by omega) (by omega)
                  · have hc12 : ¬ (m = 0) := hc12
                    refine jw_W_n 2 (i' := 71) (ls' := [some (.inr (.inr 103)), some (.inl a), some (.inl b2), some (.inl c), some (.inl t), some (.inl m), some (.inl k), some (.inr (.inl v)), none, some (.inl k), some (.inl (k / 100)), some (.inl (k / 10 % 10)), some (.inl (k % 10)), some (.inr (.inl (jn_wv G k))), none]) (st' := [.inr (.inl v), .inr (.inl (jn_wv G k))]) rfl ?_
                    refine jw_W_lc rfl rfl (by unfold jw_rgl; omega) (by unfold jw_rgl; omega) (fun hc13 => ?_) (fun hc13 => ?_)
                    · have hc13 : (jn_wv G k) ≤ v := hc13
                      refine jw_W_n 6 (i' := 21) (ls' := [some (.inr (.inr 103)), some (.inl a), some (.inl b2), some (.inl c), some (.inl t), some (.inl (m + 1)), some (.inl k), some (.inr (.inl v)), none, some (.inl (k + 1)), some (.inl (k / 100)), some (.inl (k / 10 % 10)), some (.inl (k % 10)), some (.inr (.inl (jn_wv G k))), none]) (st' := []) rfl ?_
                      omega
                    · have hc13 : ¬ ((jn_wv G k) ≤ v) := hc13
                      refine jw_W_n 8 (i' := 21) (ls' := [some (.inr (.inr 103)), some (.inl a), some (.inl b2), some (.inl c), some (.inl t), some (.inl (m + 1)), some (.inl k), some (.inr (.inl (jn_wv G k))), none, some (.inl (k + 1)), some (.inl (k / 100)), some (.inl (k / 10 % 10)), some (.inl (k % 10)), some (.inr (.inl (jn_wv G k))), none]) (st' := []) rfl ?_
                      exact ih (by omega) (jn_ws_new k0 H ⟨hip, hal⟩ (by omega)) (by omega) (by omega)
          · rw [hs]
            show jw_W (js_S n) _ md_307 49 [some (.inr (.inr 103)), some (.inl a), some (.inl b2), some (.inl c), some (.inl t), some (.inl m), some (.inl f), some (.inr (.inl v)), none, some (.inl k), some (.inl (k / 100)), some (.inl (k / 10 % 10)), some (.inl (k % 10)), x13, x14] [.inl 0] σ _
            refine jw_W_if rfl (by unfold jw_rg; omega) (fun hc14 => ?_) (fun hc14 => ?_)
            · clear hc14
              refine jw_W_n 2 (i' := 21) (ls' := [some (.inr (.inr 103)), some (.inl a), some (.inl b2), some (.inl c), some (.inl t), some (.inl m), some (.inl f), some (.inr (.inl v)), none, some (.inl (k + 1)), some (.inl (k / 100)), some (.inl (k / 10 % 10)), some (.inl (k % 10)), x13, x14]) (st' := []) rfl ?_
              refine ih (by omega) (jn_ws_no k0 H (fun hh => ?_)) (by omega) (by omega)
              first | exact hip hh.1 | exact hal hh.2
            · exact absurd hc14 (show ¬ ¬ ((0 : Int) = 0) by omega)
      · rw [hs]
        show jw_W (js_S n) _ md_307 43 [some (.inr (.inr 103)), some (.inl a), some (.inl b2), some (.inl c), some (.inl t), some (.inl m), some (.inl f), some (.inr (.inl v)), none, some (.inl k), some (.inl (k / 100)), some (.inl (k / 10 % 10)), some (.inl (k % 10)), x13, x14] [.inl 0] σ _
        refine jw_W_if rfl (by unfold jw_rg; omega) (fun hc15 => ?_) (fun hc15 => ?_)
        · clear hc15
          refine jw_W_n 2 (i' := 21) (ls' := [some (.inr (.inr 103)), some (.inl a), some (.inl b2), some (.inl c), some (.inl t), some (.inl m), some (.inl f), some (.inr (.inl v)), none, some (.inl (k + 1)), some (.inl (k / 100)), some (.inl (k / 10 % 10)), some (.inl (k % 10)), x13, x14]) (st' := []) rfl ?_
          refine ih (by omega) (jn_ws_no k0 H (fun hh => ?_)) (by omega) (by omega)
          first | exact hip hh.1 | exact hal hh.2
        · exact absurd hc15 (show ¬ ¬ ((0 : Int) = 0) by omega)
theorem jm_whole {n : Nat} {σ : jw_H} {C : List (ge_R × Int)} (hKN : jm_KN σ C) {a b2 c t : Int} (ra : jw_rg a) (rb : jw_rg b2) (rc : jw_rg c) (ht : jw_rg t) : jw_T (js_S n) 4 307 [.inr (.inr 103), .inl a, .inl b2, .inl c, .inl t] σ (fun r σ' => ∃ v, r = some (.inl v) ∧ jm_fz σ σ' ∧ jn_wha σ a b2 c t v) := by
  refine jw_T_of (D := 3) (M := mm_307) rfl (Nat.le_of_ble_eq_true rfl) (ls0 := [some (.inr (.inr 103)), some (.inl a), some (.inl b2), some (.inl c), some (.inl t), none, none, none, none, none, none, none, none, none, none]) rfl ?_ (by rintro _ _ ⟨_, rfl, -⟩; rfl)
  have hcb := (jm_kw_cbd hKN.1).2 σ (jm_fk_rf σ)
  have hcn := hcb.1
  have hPm := hKN.1.1
  have hqq := hPm.1
  have hww := hPm.2.1
  have hkk := hPm.2.2.1
  have hg57 := hKN.2.2.1.1
  have hg58 := hKN.2.2.2.1.1
  have rht := ht
  unfold jw_rg at rht
  refine jw_W_n 4 (i' := 4) (ls' := [some (.inr (.inr 103)), some (.inl a), some (.inl b2), some (.inl c), some (.inl t), none, none, none, none, none, none, none, none, none, none]) (st' := [.inl c, .inl b2, .inl a, .inr (.inr 103)]) rfl ?_
  refine jw_W_call (as := [.inr (.inr 103), .inl a, .inl b2, .inl c]) (rest := []) rfl rfl rfl rfl (Nat.le_of_ble_eq_true rfl) (.inr rfl) (jm_takesW ra rb rc) (by omega) ?_ rfl
  rintro r1 σ1 ⟨u, rfl, hf1, hu⟩
  show jw_W (js_S n) _ md_307 5 [some (.inr (.inr 103)), some (.inl a), some (.inl b2), some (.inl c), some (.inl t), none, none, none, none, none, none, none, none, none, none] [.inl u] σ1 _
  refine jw_W_if rfl (by unfold jw_rg; omega) (fun hc1 => ?_) (fun hc1 => ?_)
  · have hc1 : u = 0 := hc1
    refine jw_W_ldw (z := (-100000)) rfl rfl ?_
    refine jw_W_ir rfl ?_
    exact ⟨_, rfl, jm_w142_z hKN hf1, .inl ⟨rfl, fun hh => by obtain ⟨z1, z2⟩ := hh; rcases hu with hu | hu; omega; exact absurd z1 hu.2⟩⟩
  · have hc1 : ¬ (u = 0) := hc1
    refine jw_W_n 3 (i' := 9) (ls' := [some (.inr (.inr 103)), some (.inl a), some (.inl b2), some (.inl c), some (.inl t), none, none, none, none, none, none, none, none, none, none]) (st' := [.inl 2, .inl 0, .inl t]) rfl ?_
    refine jw_W_call (as := [.inl t, .inl 0, .inl 2]) (rest := []) rfl rfl rfl rfl (Nat.le_of_ble_eq_true rfl) (.inl rfl) (jm_in (by unfold jw_rg; omega) (by unfold jw_rg; omega) (by unfold jw_rg; omega)) (by omega) ?_ rfl
    rintro r1 σz (⟨rfl, hs, q2⟩ | ⟨rfl, hs, q2⟩)
    · rw [hs]
      show jw_W (js_S n) _ md_307 10 [some (.inr (.inr 103)), some (.inl a), some (.inl b2), some (.inl c), some (.inl t), none, none, none, none, none, none, none, none, none, none] [.inl 1] σ1 _
      refine jw_W_if rfl (by unfold jw_rg; omega) (fun hc2 => ?_) (fun hc2 => ?_)
      · clear hc2
        refine jw_W_n 2 (i' := 15) (ls' := [some (.inr (.inr 103)), some (.inl a), some (.inl b2), some (.inl c), some (.inl t), some (.inl 0), none, none, none, none, none, none, none, none, none]) (st' := []) rfl ?_
        refine jw_W_ldw (z := (-100000)) rfl rfl ?_
        refine jw_W_n 1 (i' := 17) (ls' := [some (.inr (.inr 103)), some (.inl a), some (.inl b2), some (.inl c), some (.inl t), some (.inl 0), some (.inl ((-100000))), none, none, none, none, none, none, none, none]) (st' := []) rfl ?_
        refine jw_W_ld2 (z := (-100000)) rfl rfl ?_
        refine jw_W_n 3 (i' := 21) (ls' := [some (.inr (.inr 103)), some (.inl a), some (.inl b2), some (.inl c), some (.inl t), some (.inl 0), some (.inl ((-100000))), some (.inr (.inl ((-100000)))), none, some (.inl 0), none, none, none, none, none]) (st' := []) rfl ?_
        have hwk : jm_wok a b2 c := by
          rcases hu with hu | hu
          · exact hu.2
          · omega
        obtain ⟨hKN1, hz1, hw31, hG1, hct1, e103, e135⟩ := jm_w142_all hKN hf1 hwk
        refine jw_W_mono (jm_whole_loop hKN1 hw31 (jm_gd3_Gb hPm hwk) hG1 (by omega) 1000 (k := 0) (m := 0) (f := -100000) (v := -100000) (by omega) (by omega) (by omega) (by omega) (jn_ws_0 _ _ _ _)) ?_
        rintro r σ' ⟨u', rfl, hs, n', f', v', hh, hu'⟩
        rw [hs]
        have eW : jn_wp σ1 = jn_wp σ := by
          funext q
          unfold jn_wp jm_ip
          rw [jm_fz_bA hz1 hPm, e103]
        rw [eW] at hh
        exact ⟨_, rfl, hz1, .inr ⟨⟨hwk, by omega⟩, n', f', v', hh, hu'⟩⟩
      · exact absurd hc2 (show ¬ ¬ ((1 : Int) ≠ 0) by omega)
    · rw [hs]
      show jw_W (js_S n) _ md_307 10 [some (.inr (.inr 103)), some (.inl a), some (.inl b2), some (.inl c), some (.inl t), none, none, none, none, none, none, none, none, none, none] [.inl 0] σ1 _
      refine jw_W_if rfl (by unfold jw_rg; omega) (fun hc3 => ?_) (fun hc3 => ?_)
      · exact absurd hc3 (show ¬ ((0 : Int) ≠ 0) by omega)
      · clear hc3
        refine jw_W_ldw (z := (-100000)) rfl rfl ?_
        refine jw_W_ir rfl ?_
        exact ⟨_, rfl, jm_w142_z hKN hf1, .inl ⟨rfl, fun hh => by obtain ⟨z1, z2⟩ := hh; rcases hu with hu | hu; omega; exact absurd z1 hu.2⟩⟩

/-! ===== the law: the grammar's codes; reckonsTo ===== -/
section JGD
variable {A B : List (Int × Int)} {o v : Int}
theorem jl_gd_num (h0 : 0 ≤ v) (h9 : v ≤ 99999) : jl_gd false [(0, v)] := fun _ h1 _ _ _ _ _ _ => h1 v h0 h9
theorem jl_gd_let (h0 : 0 ≤ v) (h9 : v < 7) : jl_gd false [(1, v)] := fun _ _ h2 _ _ _ _ _ => h2 v h0 h9
theorem jl_gd_bin (ha : jl_gd false A) (hb : jl_gd false B) (o2 : 2 ≤ o) (o6 : o ≤ 6) : jl_gd false (A ++ B ++ [(o, 0)]) := fun P h1 h2 h3 h4 h5 h6 h7 => h3 A B o (ha P h1 h2 h3 h4 h5 h6 h7) (hb P h1 h2 h3 h4 h5 h6 h7) o2 o6
theorem jl_gd_cmp (ha : jl_gd false A) (hb : jl_gd false B) (o2 : 7 ≤ o) (o6 : o ≤ 9) : jl_gd true (A ++ B ++ [(o, 0)]) := fun P h1 h2 h3 h4 h5 h6 h7 => h4 A B o (ha P h1 h2 h3 h4 h5 h6 h7) (hb P h1 h2 h3 h4 h5 h6 h7) o2 o6
theorem jl_gd_not (ha : jl_gd true A) : jl_gd true (A ++ [(10, 0)]) := fun P h1 h2 h3 h4 h5 h6 h7 => h5 A (ha P h1 h2 h3 h4 h5 h6 h7)
theorem jl_gd_and (ha : jl_gd true A) (hb : jl_gd true B) : jl_gd true (A ++ (11, (B.length : Int)) :: B) := fun P h1 h2 h3 h4 h5 h6 h7 => h6 A B (ha P h1 h2 h3 h4 h5 h6 h7) (hb P h1 h2 h3 h4 h5 h6 h7)
theorem jl_gd_or (ha : jl_gd true A) (hb : jl_gd true B) : jl_gd true (A ++ (12, (B.length : Int)) :: B) := fun P h1 h2 h3 h4 h5 h6 h7 => h7 A B (ha P h1 h2 h3 h4 h5 h6 h7) (hb P h1 h2 h3 h4 h5 h6 h7)
end JGD
def jl_gR (b : Bool) (R : jl_R) : Prop := R.1 = 0 → jl_gd b R.2.2
section JGR
variable {b : Int → Int} {m i : Int} {G C T : Int → jl_R} {k : Nat}
theorem jl_gR_atom (i0 : 0 ≤ i) : jl_gR false (jl_atom b m i) := by
  intro h
  by_cases h1 : 48 ≤ jk_h b m i ∧ jk_h b m i ≤ 57
  · have hn := jl_num_in (b := b) (m := m) 5 (i := i) (a := 0) i0
    by_cases h2 : 48 ≤ jk_h b m (jl_num b m 5 i 0).2 ∧ jk_h b m (jl_num b m 5 i 0).2 ≤ 57
    · rw [jl_atom_2 h1 h2] at h
      have h3 : -1000 * 2 - (jl_num b m 5 i 0).2 = 0 := h
      omega
    · rw [jl_atom_3 h1 h2]
      have hr := jl_num_rg (b := b) (m := m) 5 (i := i) (a := 0) (by omega)
      exact jl_gd_num hr.1 (by omega)
  · by_cases h2 : jl_fact (jk_h b m i) < 0
    · rw [jl_atom_1 h1 h2] at h
      have h3 : -1000 * 1 - i = 0 := h
      omega
    · rw [jl_atom_4 h1 h2]
      have := jl_fact_rg (jk_h b m i)
      exact jl_gd_let (by omega) (by omega)
theorem jl_gR_fac (hG : ∀ i, 0 ≤ i → jl_gR false (G i)) (hO : ∀ i, 0 ≤ i → jl_ok m i (G i)) (i0 : 0 ≤ i) : jl_gR false (jl_fac b m G k i) := by
  by_cases h1 : jk_h b m i = 91
  · intro h
    by_cases h2 : k = 0
    · rw [jl_fac_5 h1 h2] at h
      have h3 : -1000 * 5 - i = 0 := h
      omega
    · by_cases h4 : (G (i + 1)).1 = 0
      · have hg := hG (i + 1) (by omega) h4
        have ho := hO (i + 1) (by omega) h4
        by_cases h5 : jk_h b m (G (i + 1)).2.1 = 93
        · rw [jl_fac_7 h1 h2 h4 h5]
          exact hg
        · rw [jl_fac_8 h1 h2 h4 h5] at h
          have h3 : -1000 * 1 - (G (i + 1)).2.1 = 0 := h
          omega
      · rw [jl_fac_6 h1 h2 h4] at h
        exact absurd h h4
  · rw [jl_fac_at h1]
    exact jl_gR_atom i0
theorem jl_tim_rg (x : Int) : jl_tim x = 0 ∨ (4 ≤ jl_tim x ∧ jl_tim x ≤ 6) := by
  unfold jl_tim
  repeat' split
  all_goals omega
theorem jl_sgn_rg (x : Int) : jl_sgn x = 0 ∨ (2 ≤ jl_sgn x ∧ jl_sgn x ≤ 3) := by
  unfold jl_sgn
  repeat' split
  all_goals omega
theorem jl_com_rg (x : Int) : jl_com x = 0 ∨ (7 ≤ jl_com x ∧ jl_com x ≤ 9) := by
  unfold jl_com
  repeat' split
  all_goals omega
theorem jl_gR_prl (hG : ∀ i, 0 ≤ i → jl_gR false (G i)) (hO : ∀ i, 0 ≤ i → jl_ok m i (G i)) (i0 : 0 ≤ i) : ∀ (f : Nat) {R : jl_R}, jl_gR false R → jl_ok m i R → jl_gR false (jl_prl b m G k f R)
  | 0, R, h, _ => h
  | f + 1, R, h, ho => by
    unfold jl_prl
    split
    · rename_i hc
      have hr := ho hc.1
      have hO2 := jl_ok_fac (b := b) (m := m) (k := k) hO (i := R.2.1 + 1) (by omega)
      have ht := jl_tim_rg (jk_h b m R.2.1)
      refine jl_gR_prl hG hO i0 f (fun hT => jl_gd_bin (h hc.1) (jl_gR_fac hG hO (by omega) hT) (by omega) (by omega)) (fun hT => ?_)
      have := hO2 hT
      exact ⟨by show i < (jl_fac b m G k (R.2.1 + 1)).2.1; omega, this.2⟩
    · exact h
theorem jl_gR_prod (hG : ∀ i, 0 ≤ i → jl_gR false (G i)) (hO : ∀ i, 0 ≤ i → jl_ok m i (G i)) (i0 : 0 ≤ i) : jl_gR false (jl_prod b m G k i) := jl_gR_prl hG hO i0 300 (jl_gR_fac hG hO i0) (jl_ok_fac hO i0)
theorem jl_gR_sml (hG : ∀ i, 0 ≤ i → jl_gR false (G i)) (hO : ∀ i, 0 ≤ i → jl_ok m i (G i)) (i0 : 0 ≤ i) : ∀ (f : Nat) {R : jl_R}, jl_gR false R → jl_ok m i R → jl_gR false (jl_sml b m G k f R)
  | 0, R, h, _ => h
  | f + 1, R, h, ho => by
    unfold jl_sml
    split
    · rename_i hc
      have hr := ho hc.1
      have hO2 := jl_ok_prod (b := b) (m := m) (k := k) hO (i := R.2.1 + 1) (by omega)
      have ht := jl_sgn_rg (jk_h b m R.2.1)
      refine jl_gR_sml hG hO i0 f (fun hT => jl_gd_bin (h hc.1) (jl_gR_prod hG hO (by omega) hT) (by omega) (by omega)) (fun hT => ?_)
      have := hO2 hT
      exact ⟨by show i < (jl_prod b m G k (R.2.1 + 1)).2.1; omega, this.2⟩
    · exact h
theorem jl_gR_sumG (hG : ∀ i, 0 ≤ i → jl_gR false (G i)) (hO : ∀ i, 0 ≤ i → jl_ok m i (G i)) (i0 : 0 ≤ i) : jl_gR false (jl_sumG b m G k i) := jl_gR_sml hG hO i0 300 (jl_gR_prod hG hO i0) (jl_ok_prod hO i0)
theorem jl_gR_S : ∀ (k : Nat) {i : Int}, 0 ≤ i → jl_gR false (jl_S b m k i)
  | 0, i, h => jl_gR_sumG (fun i _ h => absurd h (by show (-1 : Int) ≠ 0; omega)) (fun i _ h => absurd h (by show (-1 : Int) ≠ 0; omega)) h
  | k + 1, i, h => jl_gR_sumG (fun i h => jl_gR_S k h) (fun i h => jl_ok_S k h) h
theorem jl_gR_cmp (i0 : 0 ≤ i) : jl_gR true (jl_cmp b m k i) := by
  intro h
  by_cases h1 : (jl_S b m k i).1 = 0
  · have g1 := jl_ok_S k i0 h1
    by_cases h2 : jl_com (jk_h b m (jl_S b m k i).2.1) = 0
    · rw [jl_cmp_2 h1 h2] at h
      have h3 : -1000 * 1 - (jl_S b m k i).2.1 = 0 := h
      omega
    · have hr := jl_com_rg (jk_h b m (jl_S b m k i).2.1)
      rw [jl_cmp_3 h1 h2] at h ⊢
      exact jl_gd_cmp (jl_gR_S k i0 h1) (jl_gR_S k (by omega) h) (by omega) (by omega)
  · rw [jl_cmp_1 h1] at h
    exact absurd h h1
theorem jl_gR_tst (hC : ∀ i, 0 ≤ i → jl_gR true (C i)) (hCO : ∀ i, 0 ≤ i → jl_ok m i (C i)) (hT : ∀ i, 0 ≤ i → jl_gR true (T i)) (i0 : 0 ≤ i) : jl_gR true (jl_tst b m C T k i) := by
  intro h
  by_cases h1 : jk_h b m i = 33
  · by_cases hk : k = 0
    · rw [jl_tst_n0 h1 hk] at h
      have h3 : -1000 * 5 - i = 0 := h
      omega
    · rw [jl_tst_n h1 hk] at h ⊢
      exact jl_gd_not (hT (i + 1) (by omega) h)
  · by_cases h2 : jk_h b m i = 40
    · by_cases hk : k = 0
      · rw [jl_tst_p0 h2 hk] at h
        have h3 : -1000 * 5 - i = 0 := h
        omega
      · by_cases hc : (C (i + 1)).1 = 0
        · have g1 := hCO (i + 1) (by omega) hc
          by_cases h41 : jk_h b m (C (i + 1)).2.1 = 41
          · rw [jl_tst_p2 h2 hk hc h41]
            exact hC (i + 1) (by omega) hc
          · rw [jl_tst_p3 h2 hk hc h41] at h
            have h3 : -1000 * 1 - (C (i + 1)).2.1 = 0 := h
            omega
        · rw [jl_tst_p1 h2 hk hc] at h
          exact absurd h hc
    · rw [jl_tst_c h1 h2] at h ⊢
      exact jl_gR_cmp i0 h
theorem jl_gR_ptl (hT : ∀ i, 0 ≤ i → jl_gR true (T i)) (hO : ∀ i, 0 ≤ i → jl_ok m i (T i)) (i0 : 0 ≤ i) : ∀ (f : Nat) {R : jl_R}, jl_gR true R → jl_ok m i R → jl_gR true (jl_ptl b m T f R)
  | 0, R, h, _ => h
  | f + 1, R, h, ho => by
    unfold jl_ptl
    split
    · rename_i hc
      have hr := ho hc.1
      refine jl_gR_ptl hT hO i0 f (fun hq => jl_gd_and (h hc.1) (hT (R.2.1 + 1) (by omega) hq)) (fun hq => ?_)
      have := hO (R.2.1 + 1) (by omega) hq
      exact ⟨by show i < (T (R.2.1 + 1)).2.1; omega, this.2⟩
    · exact h
theorem jl_gR_prt (hT : ∀ i, 0 ≤ i → jl_gR true (T i)) (hO : ∀ i, 0 ≤ i → jl_ok m i (T i)) (i0 : 0 ≤ i) : jl_gR true (jl_prt b m T i) := jl_gR_ptl hT hO i0 300 (hT i i0) (hO i i0)
theorem jl_gR_cdl (hT : ∀ i, 0 ≤ i → jl_gR true (T i)) (hO : ∀ i, 0 ≤ i → jl_ok m i (T i)) (i0 : 0 ≤ i) : ∀ (f : Nat) {R : jl_R}, jl_gR true R → jl_ok m i R → jl_gR true (jl_cdl b m T f R)
  | 0, R, h, _ => h
  | f + 1, R, h, ho => by
    unfold jl_cdl
    split
    · rename_i hc
      have hr := ho hc.1
      refine jl_gR_cdl hT hO i0 f (fun hq => jl_gd_or (h hc.1) (jl_gR_prt hT hO (by omega) hq)) (fun hq => ?_)
      have := jl_ok_prt (b := b) hO (i := R.2.1 + 1) (by omega) hq
      exact ⟨by show i < (jl_prt b m T (R.2.1 + 1)).2.1; omega, this.2⟩
    · exact h
theorem jl_gR_cnd (hT : ∀ i, 0 ≤ i → jl_gR true (T i)) (hO : ∀ i, 0 ≤ i → jl_ok m i (T i)) (i0 : 0 ≤ i) : jl_gR true (jl_cnd b m T i) := jl_gR_cdl hT hO i0 300 (jl_gR_prt hT hO i0) (jl_ok_prt hO i0)
theorem jl_gR_T : ∀ (k : Nat) {i : Int}, 0 ≤ i → jl_gR true (jl_T b m k i)
  | 0, i, h => jl_gR_tst (fun i _ h => absurd h (by show (-1 : Int) ≠ 0; omega)) (fun i _ h => absurd h (by show (-1 : Int) ≠ 0; omega)) (fun i _ h => absurd h (by show (-1 : Int) ≠ 0; omega)) h
  | k + 1, i, h => jl_gR_tst (fun i h => jl_gR_cnd (fun i h => jl_gR_T k h) (fun i h => jl_ok_T k h) h) (fun i h => jl_ok_cnd (fun i h => jl_ok_T k h) h) (fun i h => jl_gR_T k h) h
end JGR
theorem jl_reckonsTo {n : Nat} {σ : jw_H} {b : Bool} {c : List (Int × Int)} (hg : jl_gd b c) {e : Int → Int} (hrg : ∀ j, 0 ≤ j → j < 7 → jw_rg (e j)) (he : ∀ j, 0 ≤ j → j < 7 → σ 120 j = e j) {fr to : Int} (h0 : 0 ≤ fr) (hto : to = fr + (c.length : Int)) (h1 : to ≤ 260) (hcs : jl_cs σ fr c) : jw_T (js_S n) 2 209 [.inr (.inr 103), .inl fr, .inl to] σ (fun r σ' => r = some (.inl (jl_rt e c)) ∧ ∀ o, o ≠ 119 → σ' o = σ o) := by
  obtain ⟨d, v, hl, rv, -, hval, hmv⟩ := jl_pm_all (n := n) (D := 1) (Nat.le_refl 1) hrg hg
  refine jw_T_of (D := 1) (M := mm_209) rfl (Nat.le_of_ble_eq_true rfl) (ls0 := [some (.inr (.inr 103)), some (.inl fr), some (.inl to), none, none, none, none, none]) rfl ?_ (by rintro _ _ ⟨rfl, -⟩; rfl)
  refine jw_W_n 5 (i' := 5) (ls' := [some (.inr (.inr 103)), some (.inl fr), some (.inl to), some (.inl 0), none, none, none, none]) (st' := [.inl 260, .inl fr, .inl 260]) rfl ?_
  refine jw_W_idiv rfl (by unfold jw_rg; omega) (by omega) ?_
  rw [show jw_div fr 260 = 0 by rw [jn_dv (by omega) (by omega) (by omega) (by omega)]; omega]
  refine jw_W_n 1 (i' := 7) (ls' := [some (.inr (.inr 103)), some (.inl fr), some (.inl to), some (.inl 0), none, none, none, none]) (st' := [.inl 0]) rfl ?_
  show jw_W (js_S n) _ md_209 7 [some (.inr (.inr 103)), some (.inl fr), some (.inl to), some (.inl 0), none, none, none, none] [.inl 0] σ _
  refine jw_W_n 3 (i' := 10) (ls' := [some (.inr (.inr 103)), some (.inl fr), some (.inl to), some (.inl 0), some (.inl 0), some (.inl fr), none, none]) (st' := []) rfl ?_
  refine hmv σ _ fr to fr 0 none none (by omega) (by omega) (by omega) (by omega) (by omega) hcs he (fun hd σ1 hf => ⟨by rw [jl_rt_d hval hd], hf.1⟩) (fun hd σ1 y6 y7 hf hv => ?_)
  refine jw_W_n 2 (i' := 12) (ls' := [some (.inr (.inr 103)), some (.inl fr), some (.inl to), some (.inl (0 + 1)), some (.inl 0), some (.inl (fr + (c.length : Int))), y6, y7]) (st' := [.inl to, .inl (fr + (c.length : Int))]) rfl ?_
  refine jw_W_ic rfl (by unfold jw_rg; omega) (by unfold jw_rg; omega) (fun hc1 => ?_) (fun hc1 => ?_)
  · have hc1 : (fr + (c.length : Int)) ≥ to := hc1
    refine jw_W_n 1 (i' := 137) (ls' := [some (.inr (.inr 103)), some (.inl fr), some (.inl to), some (.inl (0 + 1)), some (.inl 0), some (.inl (fr + (c.length : Int))), y6, y7]) (st' := [.inr (.inr 103)]) rfl ?_
    refine jw_W_gf rfl rfl rfl ?_
    show jw_W (js_S n) _ md_209 138 [some (.inr (.inr 103)), some (.inl fr), some (.inl to), some (.inl (0 + 1)), some (.inl 0), some (.inl (fr + (c.length : Int))), y6, y7] [.inr (.inr 119)] σ1 _
    refine jw_W_n 1 (i' := 139) (ls' := [some (.inr (.inr 103)), some (.inl fr), some (.inl to), some (.inl (0 + 1)), some (.inl 0), some (.inl (fr + (c.length : Int))), y6, y7]) (st' := [.inl 0, .inr (.inr 119)]) rfl ?_
    refine jw_W_ia rfl rfl (by omega) (by omega) (by omega) ?_
    show jw_W (js_S n) _ md_209 140 [some (.inr (.inr 103)), some (.inl fr), some (.inl to), some (.inl (0 + 1)), some (.inl 0), some (.inl (fr + (c.length : Int))), y6, y7] [.inl (σ1 119 0)] σ1 _
    refine jw_W_ir rfl ?_
    exact ⟨by rw [hv, jl_rt_v hval hd], hf.1⟩
  · have hc1 : ¬ ((fr + (c.length : Int)) ≥ to) := hc1
    exfalso; omega

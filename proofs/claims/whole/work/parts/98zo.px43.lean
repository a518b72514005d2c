/-! ===== better and gain of the class ===== -/
theorem jx_fb_y {σ σ' : jw_H} (h : jx_fb σ σ') : jx_fy σ σ' := ⟨fun c _ h2 => h.1 c (by omega) (by omega), fun j _ => by rw [h.1 13 (by omega) (by omega)]⟩
theorem jm_bT_1 (β : List (Nat × ge_R)) : jm_bT 1 β = β := by
  have e : (fun z : Nat × ge_R => (z.1, ge_sr 1 z.2)) = id := by
    funext z
    obtain ⟨a, x, y, u, w⟩ := z
    simp only [ge_sr, Int.one_mul, id]
  unfold jm_bT
  rw [e, List.map_id]
theorem jm_wgt_1 (k : Int) : jm_wgt 1 1 1 k = 1 := by
  unfold jm_wgt
  split
  · rfl
  · split <;> rfl
theorem jm_aw_gk (σ : jw_H) (v : ge_R) : ∀ m : Nat, jm_aw σ v m = ge_f (jm_gk σ (jm_wgt 1 1 1) m) v
  | 0 => by
    unfold jm_aw jm_gk ge_f
    dsimp only
    omega
  | m + 1 => by
    have ih := jm_aw_gk σ v m
    unfold jm_aw jm_gk
    rw [ih, jm_wgt_1]
    unfold ge_f jm_W
    dsimp only
    grind
theorem jm_Aw_gd (σ : jw_H) (v : ge_R) : jm_Aw σ v = ge_f (jm_gd3 σ 1 1 1) v := jm_aw_gk σ v _
/-- the rows that keep each wish -/
def jx_El (σ : jw_H) (p : ge_R) (k : Nat) : List ge_R := (List.range k).map (fun (c : Nat) => ge_no (jm_W σ (c : Int)) p)
theorem jx_El_F (σ : jw_H) (p : ge_R) : jx_El σ p (σ 103 4).toNat = (jm_F σ).map (fun f => ge_no f p) := by
  unfold jx_El jm_F
  rw [List.map_map]
  rfl
theorem jx_El_s (σ : jw_H) (p : ge_R) (k : Nat) : jx_El σ p (k + 1) = jx_El σ p k ++ [ge_no (jm_W σ (k : Int)) p] := by
  unfold jx_El
  rw [List.range_succ, List.map_append]
  rfl
theorem jx_bpt {σ : jw_H} {p : ge_R} {P : List ge_R} {Pf : Int → ge_R} {b : Int} (hPf : ∀ (i : Nat) (x : ge_R), P[i]? = some x → Pf (i : Int) = x) (hs : jx_so P) (hbd : ∀ v ∈ P, jx_bd v) (hmem : ∀ v, v ∈ P ↔ ge_V (jx_El σ p (σ 103 4).toNat ++ jm_RR (σ 103 3) (jm_bA σ)) v ∧ ge_g v = 1) (h0 : 0 < P.length) (h : jx_fst (jm_gd3 σ 1 1 1) Pf (P.length : Int) b) : (0 ≤ b ∧ b < (P.length : Int)) ∧ jx_bd (Pf b) ∧ jm_bpt σ 1 p (Pf b) := by
  have hb := jx_fst_in (by omega) h
  have h1 : ∀ i : Int, 0 ≤ i → (hi : i < (P.length : Int)) → Pf i ∈ P := fun i i0 i1 => by
    have hg := List.getElem?_eq_getElem (l := P) (i := i.toNat) (by omega)
    have e := hPf _ _ hg
    rw [Int.toNat_of_nonneg i0] at e
    rw [e]
    exact List.getElem_mem _
  have hub := h1 b hb.1 hb.2
  rw [jx_El_F] at hmem
  have hmu := (hmem _).mp hub
  refine ⟨hb, hbd _ hub, ?_⟩
  unfold jm_bpt ge_up_R
  rw [jm_bT_1]
  refine ⟨hmu.1, hmu.2, fun v hv hg => ?_⟩
  have hvP := (hmem v).mpr ⟨hv, hg⟩
  obtain ⟨i, hi, e⟩ := List.getElem_of_mem hvP
  have hgi : P[i]? = some v := by rw [List.getElem?_eq_getElem hi, e]
  have ei := hPf i v hgi
  rcases h with h | ⟨-, h⟩
  · omega
  have h2 := h (i : Int) (by omega) (by omega)
  unfold jx_wl at h2
  rw [ei] at h2
  unfold jm_bs
  rw [jm_Aw_gd, jm_Aw_gd]
  have wu := (hbd _ hub).2.2.2.1
  have wv := (hbd _ hvP).2.2.2.1
  by_cases e2 : ge_f (jm_gd3 σ 1 1 1) v * (Pf b).2.2.2 < ge_f (jm_gd3 σ 1 1 1) (Pf b) * v.2.2.2
  · exact .inl e2
  · refine .inr ⟨by omega, ?_⟩
    by_cases e3 : (i : Int) < b
    · have := h2.2 e3
      omega
    · have hgb := List.getElem?_eq_getElem (l := P) (i := b.toNat) (by omega)
      have eb := hPf _ _ hgb
      rw [Int.toNat_of_nonneg hb.1] at eb
      by_cases e4 : (i : Int) = b
      · rw [← e4, ei]
        exact ge_lt_ir v
      · have h5 := jx_so_get hs hgb hgi (by omega)
        rw [← eb] at h5
        exact ge_lt_asy wu wv h5
/-- some corner keeps each wish -/
theorem jx_bpt_0 {σ : jw_H} {p : ge_R} {P : List ge_R} (hP : jm_Pb σ) (hw : p.2.2.2 = 1) (hF : ge_F (jm_RR (σ 103 3) (jm_bA σ)) p) (hmem : ∀ v, v ∈ P ↔ ge_V (jx_El σ p (σ 103 4).toNat ++ jm_RR (σ 103 3) (jm_bA σ)) v ∧ ge_g v = 1) : 0 < P.length := by
  rw [jx_El_F] at hmem
  obtain ⟨v, hv, -⟩ := ge_vert (ge_B_app (Q := (jm_F σ).map (fun f => ge_no f p)) (jm_bA_B hP)) (0, 0, 0) (p := p) ((ge_up_F hw).mpr ⟨hF, fun f _ => Int.le_refl _⟩)
  obtain ⟨a1, a2, a3⟩ := ge_pp_ok hv.1.1
  have := (hmem (ge_pp v)).mpr ⟨ge_e_V (ge_e_sym a1) hv.1.1 a3 hv, a2⟩
  exact List.length_pos_of_mem this
theorem jm_W_flat {σ : jw_H} (hP : jm_Pb σ) {k : Int} (k0 : 0 ≤ k) (k1 : k < σ 103 4) : (σ 103 3 ≤ 2 → (jm_W σ k).2.2 = 0) ∧ (σ 103 3 ≤ 1 → (jm_W σ k).2.1 = 0) := by
  obtain ⟨-, -, -, -, -, hw⟩ := hP
  have h := hw k k0 k1
  have h1 := h 1 (by omega) (by omega)
  have h2 := h 2 (by omega) (by omega)
  unfold jm_W
  dsimp only
  exact ⟨fun hh => h2.2.2 hh, fun hh => h1.2.2 hh⟩
theorem jx_El_rb {σ : jw_H} (hP : jm_Pb σ) {x y z : Int} (h : jm_ip σ x y z) {k : Nat} (hk : (k : Int) ≤ σ 103 4) : ∀ r ∈ jx_El σ (x, y, z, 1) k, ((σ 103 3 ≤ 2 → r.2.2.1 = 0) ∧ (σ 103 3 ≤ 1 → r.2.1 = 0)) ∧ jx_rb r := by
  intro r hr
  obtain ⟨c, hc, rfl⟩ := List.mem_map.mp hr
  have hc := List.mem_range.mp hc
  have hW := jm_W_sm hP (k := (c : Int)) (by omega) (by omega)
  have hfl := jm_W_flat hP (k := (c : Int)) (by omega) (by omega)
  unfold jm_ip at h
  have p1 := jx_m27 (x := x) (y := (jm_W σ (c : Int)).1) (by omega) hW.1
  have p2 := jx_m27 (x := y) (y := (jm_W σ (c : Int)).2.1) (by omega) hW.2.1
  have p3 := jx_m27 (x := z) (y := (jm_W σ (c : Int)).2.2) (by omega) hW.2.2
  rw [Int.mul_comm] at p1 p2 p3
  unfold ge_no jx_rb ge_sm ge_f
  dsimp only
  omega

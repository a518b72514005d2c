/-! ===== the reference: corners, edges and what is efficient are known ===== -/
/-- a problem, its corners and its planes -/
def jm_k0 (σ : jw_H) (C : List (ge_R × Int)) : Prop := jm_Pb σ ∧ jm_kn σ C ∧ jm_flat (σ 103 3) (jm_bA σ) ∧ jm_key (jm_bA σ) ∧ jm_Ns σ ∧ jm_nrm σ (jm_bA σ)
theorem jm_lb_pre {σ σ1 : jw_H} (hP : jm_Pb σ) (H : jm_lb σ (-1) (-1) σ1 (σ 103 5)) : ∃ L, jm_is σ1 L ∧ L.length ≤ 20 ∧ (∀ x ∈ L, jm_in4 1458 x.1) ∧ L.Pairwise (fun x y => ¬ ge_e x.1 y.1) ∧ ∀ σ2, jm_fr3 σ1 σ2 → jm_cor σ2 (ge_srt L) → jm_k0 σ2 (ge_srt L) := by
  obtain ⟨fr, L, hI, hBd, hB, hn, hN, hf, hk⟩ := H
  have e3 : σ1 103 3 = σ 103 3 := fr.2 3 (by omega)
  rw [e3] at hBd hf
  have hlen := jm_kn_len hP hBd
  have hv := fun (x : ge_R × Int) (hx : x ∈ L) => jm_V_bd hP (jm_bk_bnd (wo := -1) (mo := -1) hP (k := (σ 103 5).toNat) (by have := hP.2.2.1; omega)) (hBd.1 x hx).1 (hBd.1 x hx).2.1
  refine ⟨L, hI, hlen, fun x hx => (hv x hx).1, hBd.2.2, fun σ2 f2 hc => ?_⟩
  have o : ∀ o : Nat, o = 104 ∨ o = 105 ∨ o = 106 → σ2 o = σ o := fun o ho => (f2.1 o (by omega) (by omega)).trans (fr.1 o (by omega) (by omega))
  have q : ∀ j : Int, j = 3 ∨ j = 4 ∨ j = 5 → σ2 103 j = σ 103 j := fun j hj => (f2.2 j (by omega)).trans (fr.2 j (by omega))
  have eb : jm_bA σ2 = jm_bA σ := by
    unfold jm_bA
    rw [q 5 (by omega)]
    exact jm_bk_same (q 3 (by omega)) (q 5 (by omega)) (o 105 (by omega)) (o 106 (by omega)) _
  have e131 : σ2 131 = σ1 131 := f2.1 131 (by omega) (by omega)
  refine ⟨jm_Pb_fr q (o 104 (by omega)) (o 105 (by omega)) (o 106 (by omega)) hP, ⟨hc, ?_, ?_⟩, ?_, ?_, ?_, ?_⟩
  · rw [eb, q 3 (by omega)]
    exact ge_Bd_perm (ge_srt_perm L) hBd
  · exact ge_srt_sorted (fun x hx => (hv x hx).1.2.2.2.1) hBd.2.2
  · rw [eb, q 3 (by omega)]
    exact hf
  · rw [eb]
    exact hk
  · unfold jm_Ns
    rw [e131]
    exact hN
  · rw [eb]
    unfold jm_nrm jm_N
    rw [e131]
    exact hn
/-- a mask tells which of the first corners it holds for -/
def jm_gd (σ : jw_H) (f : Int) (C : List (ge_R × Int)) (i : Int) (P : ge_R → Prop) : Prop := (0 ≤ σ 103 f ∧ σ 103 f ≤ 1048575) ∧ ∀ a : Int, 0 ≤ a → (jb_in (σ 103 f) a.toNat ↔ a < i ∧ ∃ x, C[a.toNat]? = some x ∧ P x.1)
theorem jm_gd_same {σ σ' : jw_H} {f i : Int} {C : List (ge_R × Int)} {P : ge_R → Prop} (e : σ' 103 f = σ 103 f) (h : jm_gd σ f C i P) : jm_gd σ' f C i P := by
  unfold jm_gd
  rw [e]
  exact h
theorem jm_gd_yes {σ : jw_H} {f i : Int} {C : List (ge_R × Int)} {P : ge_R → Prop} {x : ge_R × Int} (h : jm_gd σ f C i P) (i0 : 0 ≤ i) (i1 : i < 20) (hx : C[i.toNat]? = some x) (hp : P x.1) : jm_gd (jw_up σ 103 f (jw_or (σ 103 f) (jw_shl 1 i))) f C (i + 1) P := by
  obtain ⟨h1, h2⟩ := h
  have ho := jm_orb h1 i0 i1
  unfold jm_gd
  rw [jw_up_eq]
  refine ⟨ho.1, fun a a0 => ?_⟩
  rw [ho.2, h2 a a0, Int.toNat_of_nonneg a0]
  constructor
  · rintro (⟨h3, h4⟩ | e)
    · exact ⟨by omega, h4⟩
    · rw [e]
      exact ⟨by omega, x, hx, hp⟩
  · rintro ⟨h3, h4⟩
    by_cases e : a = i
    · exact .inr e
    · exact .inl ⟨by omega, h4⟩
theorem jm_gd_no {σ : jw_H} {f i : Int} {C : List (ge_R × Int)} {P : ge_R → Prop} {x : ge_R × Int} (h : jm_gd σ f C i P) (hx : C[i.toNat]? = some x) (hp : ¬ P x.1) : jm_gd σ f C (i + 1) P := by
  refine ⟨h.1, fun a a0 => ?_⟩
  rw [h.2 a a0]
  constructor
  · rintro ⟨h3, h4⟩
    exact ⟨by omega, h4⟩
  · rintro ⟨h3, y, hy, h5⟩
    refine ⟨?_, y, hy, h5⟩
    apply Classical.byContradiction
    intro hn
    have e : a = i := by omega
    rw [e, hx] at hy
    cases hy
    exact hp h5
def jm_k1 (σ0 : jw_H) (C : List (ge_R × Int)) (σ : jw_H) (z gg ww : Int) : Prop := jm_fk σ0 σ ∧ jm_Ns σ ∧ jm_nrm σ (jm_bA σ0) ∧ (∀ a, 0 ≤ a → a < z → σ 137 a = 0 ∧ σ 138 a = 0) ∧ jm_gd σ 57 C gg (fun p => ¬ jm_Ef σ0 p) ∧ jm_gd σ 58 C ww (fun p => jm_Wk σ0 p)
theorem jm_k1_fe {σ0 σ σ' : jw_H} {C : List (ge_R × Int)} {z gg ww : Int} (h : jm_k1 σ0 C σ z gg ww) (a : jm_fe σ σ') : jm_k1 σ0 C σ' z gg ww := by
  obtain ⟨h1, h2, h3, h4, h5, h6⟩ := h
  obtain ⟨a1, a2, a3⟩ := a
  rw [jm_fk_bA h1] at a3
  refine ⟨jm_fk_tr h1 (jm_fr2_k a1), a2, a3, ?_, jm_gd_same (a1.2 57 (by omega)) h5, jm_gd_same (a1.2 58 (by omega)) h6⟩
  rw [a1.1 137 (by omega) (by omega), a1.1 138 (by omega) (by omega)]
  exact h4
theorem jm_k1_up {σ0 σ : jw_H} {C : List (ge_R × Int)} {z gg ww f v : Int} (h : jm_k1 σ0 C σ z gg ww) (hf : f = 57 ∨ f = 58) : jm_fk σ0 (jw_up σ 103 f v) ∧ jm_Ns (jw_up σ 103 f v) ∧ jm_nrm (jw_up σ 103 f v) (jm_bA σ0) ∧ ∀ a, 0 ≤ a → a < z → jw_up σ 103 f v 137 a = 0 ∧ jw_up σ 103 f v 138 a = 0 := by
  obtain ⟨h1, h2, h3, h4, h5, h6⟩ := h
  have e : ∀ o, o ≠ 103 → jw_up σ 103 f v o = σ o := fun o ho => jw_up_out _ _ _ ho
  refine ⟨jm_fk_up h1 (by omega), ?_, ?_, ?_⟩
  · unfold jm_Ns
    rw [e 131 (by omega)]
    exact h2
  · unfold jm_nrm jm_N
    rw [e 131 (by omega)]
    exact h3
  · rw [e 137 (by omega), e 138 (by omega)]
    exact h4
theorem jm_k1_z {σ0 σ : jw_H} {C : List (ge_R × Int)} {i gg ww : Int} (h : jm_k1 σ0 C σ i gg ww) : jm_k1 σ0 C (jw_up (jw_up σ 137 i 0) 138 i 0) (i + 1) gg ww := by
  obtain ⟨h1, h2, h3, h4, h5, h6⟩ := h
  have e : ∀ o, o ≠ 137 → o ≠ 138 → jw_up (jw_up σ 137 i 0) 138 i 0 o = σ o := fun o ho h => by
    rw [jw_up_out _ _ _ h, jw_up_out _ _ _ ho]
  refine ⟨jm_fk_up (jm_fk_up h1 (by omega)) (by omega), ?_, ?_, fun a a0 a1 => ?_, jm_gd_same (by rw [e 103 (by omega) (by omega)]) h5, jm_gd_same (by rw [e 103 (by omega) (by omega)]) h6⟩
  · unfold jm_Ns
    rw [e 131 (by omega) (by omega)]
    exact h2
  · unfold jm_nrm jm_N
    rw [e 131 (by omega) (by omega)]
    exact h3
  · by_cases ea : a = i
    · rw [ea]
      refine ⟨?_, jw_up_eq _ _ _ _⟩
      rw [jw_up_ne _ (by omega), jw_up_eq]
    · rw [jw_up_ne _ (by omega), jw_up_ne _ (by omega), jw_up_ne _ (by omega), jw_up_ne _ (by omega)]
      exact h4 a a0 (by omega)
theorem jm_k1_g {σ0 σ : jw_H} {C : List (ge_R × Int)} {z i ww : Int} {x : ge_R × Int} (h : jm_k1 σ0 C σ z i ww) (i0 : 0 ≤ i) (i1 : i < 20) (hx : C[i.toNat]? = some x) (hp : ¬ jm_Ef σ0 x.1) : jm_k1 σ0 C (jw_up σ 103 57 (jw_or (σ 103 57) (jw_shl 1 i))) z (i + 1) ww := by
  obtain ⟨u1, u2, u3, u4⟩ := jm_k1_up (v := jw_or (σ 103 57) (jw_shl 1 i)) h (.inl rfl)
  exact ⟨u1, u2, u3, u4, jm_gd_yes h.2.2.2.2.1 i0 i1 hx hp, jm_gd_same (jw_up_ne _ (by omega)) h.2.2.2.2.2⟩
theorem jm_k1_w {σ0 σ : jw_H} {C : List (ge_R × Int)} {z i gg : Int} {x : ge_R × Int} (h : jm_k1 σ0 C σ z gg i) (i0 : 0 ≤ i) (i1 : i < 20) (hx : C[i.toNat]? = some x) (hp : jm_Wk σ0 x.1) : jm_k1 σ0 C (jw_up σ 103 58 (jw_or (σ 103 58) (jw_shl 1 i))) z gg (i + 1) := by
  obtain ⟨u1, u2, u3, u4⟩ := jm_k1_up (v := jw_or (σ 103 58) (jw_shl 1 i)) h (.inr rfl)
  exact ⟨u1, u2, u3, u4, jm_gd_same (jw_up_ne _ (by omega)) h.2.2.2.2.1, jm_gd_yes h.2.2.2.2.2 i0 i1 hx hp⟩
theorem jm_k1_gn {σ0 σ : jw_H} {C : List (ge_R × Int)} {z i ww : Int} {x : ge_R × Int} (h : jm_k1 σ0 C σ z i ww) (hx : C[i.toNat]? = some x) (hp : jm_Ef σ0 x.1) : jm_k1 σ0 C σ z (i + 1) ww := ⟨h.1, h.2.1, h.2.2.1, h.2.2.2.1, jm_gd_no h.2.2.2.2.1 hx (fun hn => hn hp), h.2.2.2.2.2⟩
theorem jm_k1_wn {σ0 σ : jw_H} {C : List (ge_R × Int)} {z i gg : Int} {x : ge_R × Int} (h : jm_k1 σ0 C σ z gg i) (hx : C[i.toNat]? = some x) (hp : ¬ jm_Wk σ0 x.1) : jm_k1 σ0 C σ z gg (i + 1) := ⟨h.1, h.2.1, h.2.2.1, h.2.2.2.1, h.2.2.2.2.1, jm_gd_no h.2.2.2.2.2 hx hp⟩
/-- what a corner is in the store -/
theorem jm_k1_c {σ0 σ : jw_H} {C : List (ge_R × Int)} {i : Int} {x : ge_R × Int} (hK : jm_k0 σ0 C) (hF : jm_fk σ0 σ) (i0 : 0 ≤ i) (hx : C[i.toNat]? = some x) : σ 132 i = x.1.1 ∧ σ 133 i = x.1.2.1 ∧ σ 134 i = x.1.2.2.1 ∧ σ 135 i = x.1.2.2.2 ∧ x.1.2.2.2 ≤ 262440 ∧ ge_F (jm_RR (σ 103 3) (jm_bA σ)) (x.1.1, x.1.2.1, x.1.2.2.1, x.1.2.2.2) := by
  obtain ⟨hP, hK, -⟩ := hK
  have g0 := (hK.1.2 _ _ hx).1
  rw [Int.toNat_of_nonneg i0] at g0
  have g : jm_ct σ i = x.1 := (jm_fk_ct hF i).1.trans g0
  have b := jm_kn_bd hP hK x (List.mem_of_getElem? hx)
  refine ⟨congrArg (fun z : ge_R => z.1) g, congrArg (fun z : ge_R => z.2.1) g, congrArg (fun z : ge_R => z.2.2.1) g, congrArg (fun z : ge_R => z.2.2.2) g, by omega, ?_⟩
  rw [jm_fk_bA hF, hF.2 3 (by omega) (by omega) (by omega) (by omega)]
  exact (hK.2.1.1 x (List.mem_of_getElem? hx)).1.1
theorem jm_knows_w {n : Nat} {σ0 σ : jw_H} {D : Nat} {C : List (ge_R × Int)} {i : Int} {x : ge_R × Int} {v : Option jw_V} {Q : Option jw_V → jw_H → Prop} (hD : 6 ≤ D) (hK : jm_k0 σ0 C) (i0 : 0 ≤ i) (i1 : i < 20) (hx : C[i.toNat]? = some x) (H4 : jm_k1 σ0 C σ (i + 1) (i + 1) i) (hQ : ∀ σ', jm_k1 σ0 C σ' (i + 1) (i + 1) (i + 1) → jw_W (js_S n) D md_258 14 [some (.inr (.inr 103)), some (.inl (i + 1)), v] [] σ' Q) : jw_W (js_S n) D md_258 55 [some (.inr (.inr 103)), some (.inl i), v] [] σ Q := by
  obtain ⟨d1, d2, d3, d4, d5, d6⟩ := jm_k1_c hK H4.1 i0 hx
  refine jw_W_n 2 (i' := 57) (ls' := [some (.inr (.inr 103)), some (.inl i), v]) (st' := [.inl i, .inr (.inr 103)]) rfl ?_
  refine jw_W_call (as := [.inr (.inr 103), .inl i]) (rest := []) rfl rfl rfl rfl (Nat.le_of_ble_eq_true rfl) (.inr rfl) (jm_isWeak2 (C := C) (jm_fk_Pb H4.1 hK.1) H4.2.1 (jm_fk_kn H4.1 hK.2.1) d5 d6 i0 i1 d1 d2 d3 d4) (by omega) ?_ rfl
  rintro r1 σ1 (⟨rfl, hfe2, hW⟩ | ⟨rfl, hfe2, hW⟩)
  · rename jw_H => σ3
    replace hW : jm_Wk σ0 x.1 := (jm_fk_Wk H4.1 _).mp hW
    have H5 := jm_k1_fe H4 hfe2
    show jw_W (js_S n) _ md_258 58 [some (.inr (.inr 103)), some (.inl i), v] [.inl 1] σ3 _
    refine jw_W_if rfl (by unfold jw_rg; omega) (fun hc1 => ?_) (fun hc1 => ?_)
    · exact absurd hc1 (show ¬ ((1 : Int) = 0) by omega)
    · clear hc1
      refine jw_W_n 2 (i' := 61) (ls' := [some (.inr (.inr 103)), some (.inl i), v]) (st' := [.inr (.inr 103), .inr (.inr 103)]) rfl ?_
      refine jw_W_gf rfl rfl rfl ?_
      show jw_W (js_S n) _ md_258 62 [some (.inr (.inr 103)), some (.inl i), v] [.inl (σ3 103 58), .inr (.inr 103)] σ3 _
      refine jw_W_n 4 (i' := 66) (ls' := [some (.inr (.inr 103)), some (.inl i), v]) (st' := [.inl (jw_or (σ3 103 58) (jw_shl 1 i)), .inr (.inr 103)]) rfl ?_
      refine jw_W_pf (a := jw_or (σ3 103 58) (jw_shl 1 i)) rfl (by omega) rfl rfl rfl rfl rfl ?_
      refine jw_W_n 2 (i' := 14) (ls' := [some (.inr (.inr 103)), some (.inl (i + 1)), v]) (st' := []) rfl ?_
      exact hQ _ (jm_k1_w H5 i0 i1 hx hW)
  · rename jw_H => σ3
    replace hW : ¬ jm_Wk σ0 x.1 := fun h => hW ((jm_fk_Wk H4.1 _).mpr h)
    have H5 := jm_k1_fe H4 hfe2
    show jw_W (js_S n) _ md_258 58 [some (.inr (.inr 103)), some (.inl i), v] [.inl 0] σ3 _
    refine jw_W_if rfl (by unfold jw_rg; omega) (fun hc2 => ?_) (fun hc2 => ?_)
    · clear hc2
      refine jw_W_n 2 (i' := 14) (ls' := [some (.inr (.inr 103)), some (.inl (i + 1)), v]) (st' := []) rfl ?_
      exact hQ σ3 (jm_k1_wn H5 hx hW)
    · exact absurd hc2 (show ¬ ¬ ((0 : Int) = 0) by omega)
theorem jm_knows_1 {n : Nat} {σ0 : jw_H} {D : Nat} {C : List (ge_R × Int)} {v : Option jw_V} {Q : Option jw_V → jw_H → Prop} (hD : 6 ≤ D) (hK : jm_k0 σ0 C) (hl : C.length ≤ 20) (hQ : ∀ σ' v', jm_k1 σ0 C σ' C.length C.length C.length → jw_W (js_S n) D md_258 69 [some (.inr (.inr 103)), some (.inl ((C.length : Int))), v'] [] σ' Q) : ∀ (f : Nat) {σ : jw_H} {i : Int}, 0 ≤ i → i + f = (C.length : Int) → jm_k1 σ0 C σ i i i → jw_W (js_S n) D md_258 14 [some (.inr (.inr 103)), some (.inl i), v] [] σ Q
  | f, σ, i, i0, hk, H => by
    have ih : ∀ {σ' : jw_H}, i < (C.length : Int) → jm_k1 σ0 C σ' (i + 1) (i + 1) (i + 1) → jw_W (js_S n) D md_258 14 [some (.inr (.inr 103)), some (.inl (i + 1)), v] [] σ' Q := by
      intro σ' h1 h2
      match f, hk with
      | 0, hk => omega
      | f + 1, hk => exact jm_knows_1 hD hK hl hQ f (by omega) (by omega) h2
    have e56 : σ 103 56 = (C.length : Int) := (H.1.2 56 (by omega) (by omega) (by omega) (by omega)).trans hK.2.1.1.1
    refine jw_W_n 2 (i' := 16) (ls' := [some (.inr (.inr 103)), some (.inl i), v]) (st' := [.inr (.inr 103), .inl i]) rfl ?_
    refine jw_W_gf rfl rfl rfl ?_
    show jw_W (js_S n) _ md_258 17 [some (.inr (.inr 103)), some (.inl i), v] [.inl (σ 103 56), .inl i] σ _
    refine jw_W_ic rfl (by unfold jw_rg; omega) (by unfold jw_rg; omega) (fun hc1 => ?_) (fun hc1 => ?_)
    · have hc1 : i ≥ (σ 103 56) := hc1
      have hkl : i = (C.length : Int) := by omega
      subst hkl
      exact hQ σ v H
    · have hc1 : ¬ (i ≥ (σ 103 56)) := hc1
      obtain ⟨x, hx⟩ : ∃ x, C[i.toNat]? = some x := ⟨_, List.getElem?_eq_getElem (show i.toNat < C.length by omega)⟩
      have i1 : i < 20 := by omega
      refine jw_W_n 1 (i' := 19) (ls' := [some (.inr (.inr 103)), some (.inl i), v]) (st' := [.inr (.inr 103)]) rfl ?_
      refine jw_W_gf rfl rfl rfl ?_
      show jw_W (js_S n) _ md_258 20 [some (.inr (.inr 103)), some (.inl i), v] [.inr (.inr 137)] σ _
      refine jw_W_n 2 (i' := 22) (ls' := [some (.inr (.inr 103)), some (.inl i), v]) (st' := [.inl 0, .inl i, .inr (.inr 137)]) rfl ?_
      refine jw_W_is rfl (by omega) rfl (by omega) (by omega) (by omega) ?_
      refine jw_W_n 1 (i' := 24) (ls' := [some (.inr (.inr 103)), some (.inl i), v]) (st' := [.inr (.inr 103)]) rfl ?_
      refine jw_W_gf rfl rfl rfl ?_
      show jw_W (js_S n) _ md_258 25 [some (.inr (.inr 103)), some (.inl i), v] [.inr (.inr 138)] ((jw_up σ 137 i 0)) _
      refine jw_W_n 2 (i' := 27) (ls' := [some (.inr (.inr 103)), some (.inl i), v]) (st' := [.inl 0, .inl i, .inr (.inr 138)]) rfl ?_
      refine jw_W_is rfl (by omega) rfl (by omega) (by omega) (by omega) ?_
      have Hz := jm_k1_z H
      obtain ⟨e1, e2, e3, e4, e5, e6⟩ := jm_k1_c hK Hz.1 i0 hx
      generalize (jw_up (jw_up σ 137 i 0) 138 i 0) = σ2 at *
      refine jw_W_n 2 (i' := 30) (ls' := [some (.inr (.inr 103)), some (.inl i), v]) (st' := [.inr (.inr 103), .inr (.inr 103)]) rfl ?_
      refine jw_W_gf rfl rfl rfl ?_
      show jw_W (js_S n) _ md_258 31 [some (.inr (.inr 103)), some (.inl i), v] [.inr (.inr 132), .inr (.inr 103)] σ2 _
      refine jw_W_n 1 (i' := 32) (ls' := [some (.inr (.inr 103)), some (.inl i), v]) (st' := [.inl i, .inr (.inr 132), .inr (.inr 103)]) rfl ?_
      refine jw_W_la rfl rfl (by omega) (by omega) (by omega) ?_
      show jw_W (js_S n) _ md_258 33 [some (.inr (.inr 103)), some (.inl i), v] [.inr (.inl (σ2 132 i)), .inr (.inr 103)] σ2 _
      rw [e1]
      refine jw_W_n 1 (i' := 34) (ls' := [some (.inr (.inr 103)), some (.inl i), v]) (st' := [.inr (.inr 103), .inr (.inl x.1.1), .inr (.inr 103)]) rfl ?_
      refine jw_W_gf rfl rfl rfl ?_
      show jw_W (js_S n) _ md_258 35 [some (.inr (.inr 103)), some (.inl i), v] [.inr (.inr 133), .inr (.inl x.1.1), .inr (.inr 103)] σ2 _
      refine jw_W_n 1 (i' := 36) (ls' := [some (.inr (.inr 103)), some (.inl i), v]) (st' := [.inl i, .inr (.inr 133), .inr (.inl x.1.1), .inr (.inr 103)]) rfl ?_
      refine jw_W_la rfl rfl (by omega) (by omega) (by omega) ?_
      show jw_W (js_S n) _ md_258 37 [some (.inr (.inr 103)), some (.inl i), v] [.inr (.inl (σ2 133 i)), .inr (.inl x.1.1), .inr (.inr 103)] σ2 _
      rw [e2]
      refine jw_W_n 1 (i' := 38) (ls' := [some (.inr (.inr 103)), some (.inl i), v]) (st' := [.inr (.inr 103), .inr (.inl x.1.2.1), .inr (.inl x.1.1), .inr (.inr 103)]) rfl ?_
      refine jw_W_gf rfl rfl rfl ?_
      show jw_W (js_S n) _ md_258 39 [some (.inr (.inr 103)), some (.inl i), v] [.inr (.inr 134), .inr (.inl x.1.2.1), .inr (.inl x.1.1), .inr (.inr 103)] σ2 _
      refine jw_W_n 1 (i' := 40) (ls' := [some (.inr (.inr 103)), some (.inl i), v]) (st' := [.inl i, .inr (.inr 134), .inr (.inl x.1.2.1), .inr (.inl x.1.1), .inr (.inr 103)]) rfl ?_
      refine jw_W_la rfl rfl (by omega) (by omega) (by omega) ?_
      show jw_W (js_S n) _ md_258 41 [some (.inr (.inr 103)), some (.inl i), v] [.inr (.inl (σ2 134 i)), .inr (.inl x.1.2.1), .inr (.inl x.1.1), .inr (.inr 103)] σ2 _
      rw [e3]
      refine jw_W_n 1 (i' := 42) (ls' := [some (.inr (.inr 103)), some (.inl i), v]) (st' := [.inr (.inr 103), .inr (.inl x.1.2.2.1), .inr (.inl x.1.2.1), .inr (.inl x.1.1), .inr (.inr 103)]) rfl ?_
      refine jw_W_gf rfl rfl rfl ?_
      show jw_W (js_S n) _ md_258 43 [some (.inr (.inr 103)), some (.inl i), v] [.inr (.inr 135), .inr (.inl x.1.2.2.1), .inr (.inl x.1.2.1), .inr (.inl x.1.1), .inr (.inr 103)] σ2 _
      refine jw_W_n 1 (i' := 44) (ls' := [some (.inr (.inr 103)), some (.inl i), v]) (st' := [.inl i, .inr (.inr 135), .inr (.inl x.1.2.2.1), .inr (.inl x.1.2.1), .inr (.inl x.1.1), .inr (.inr 103)]) rfl ?_
      refine jw_W_la rfl rfl (by omega) (by omega) (by omega) ?_
      show jw_W (js_S n) _ md_258 45 [some (.inr (.inr 103)), some (.inl i), v] [.inr (.inl (σ2 135 i)), .inr (.inl x.1.2.2.1), .inr (.inl x.1.2.1), .inr (.inl x.1.1), .inr (.inr 103)] σ2 _
      rw [e4]
      refine jw_W_call (as := [.inr (.inr 103), .inr (.inl x.1.1), .inr (.inl x.1.2.1), .inr (.inl x.1.2.2.1), .inr (.inl x.1.2.2.2)]) (rest := []) rfl rfl rfl rfl (Nat.le_of_ble_eq_true rfl) (.inr rfl) (jm_isEff2 (C := C) (jm_fk_Pb Hz.1 hK.1) Hz.2.1 (jm_fk_kn Hz.1 hK.2.1) e5 e6) (by omega) ?_ rfl
      rintro r1 σ1 (⟨rfl, hfe, hE⟩ | ⟨rfl, hfe, hE⟩)
      · rename jw_H => σ3
        replace hE : ¬ jm_Ef σ0 x.1 := fun h => hE ((jm_fk_Ef Hz.1 _).mpr h)
        have H3 := jm_k1_fe Hz hfe
        show jw_W (js_S n) _ md_258 46 [some (.inr (.inr 103)), some (.inl i), v] [.inl 1] σ3 _
        refine jw_W_if rfl (by unfold jw_rg; omega) (fun hc2 => ?_) (fun hc2 => ?_)
        · exact absurd hc2 (show ¬ ((1 : Int) = 0) by omega)
        · clear hc2
          refine jw_W_n 2 (i' := 49) (ls' := [some (.inr (.inr 103)), some (.inl i), v]) (st' := [.inr (.inr 103), .inr (.inr 103)]) rfl ?_
          refine jw_W_gf rfl rfl rfl ?_
          show jw_W (js_S n) _ md_258 50 [some (.inr (.inr 103)), some (.inl i), v] [.inl (σ3 103 57), .inr (.inr 103)] σ3 _
          refine jw_W_n 4 (i' := 54) (ls' := [some (.inr (.inr 103)), some (.inl i), v]) (st' := [.inl (jw_or (σ3 103 57) (jw_shl 1 i)), .inr (.inr 103)]) rfl ?_
          refine jw_W_pf (a := jw_or (σ3 103 57) (jw_shl 1 i)) rfl (by omega) rfl rfl rfl rfl rfl ?_
          exact jm_knows_w hD hK i0 i1 hx (jm_k1_g H3 i0 i1 hx hE) (fun σ' h => ih (by omega) h)
      · rename jw_H => σ3
        replace hE : jm_Ef σ0 x.1 := (jm_fk_Ef Hz.1 _).mp hE
        have H3 := jm_k1_fe Hz hfe
        show jw_W (js_S n) _ md_258 46 [some (.inr (.inr 103)), some (.inl i), v] [.inl 0] σ3 _
        refine jw_W_if rfl (by unfold jw_rg; omega) (fun hc3 => ?_) (fun hc3 => ?_)
        · clear hc3
          exact jm_knows_w hD hK i0 i1 hx (jm_k1_gn H3 hx hE) (fun σ' h => ih (by omega) h)
        · exact absurd hc3 (show ¬ ¬ ((0 : Int) = 0) by omega)

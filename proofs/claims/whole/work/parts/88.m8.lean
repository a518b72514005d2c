/-! ===== the reference's body: it is cut: what is left ===== -/
theorem jm_cuts2 {n : Nat} {σ0 : jw_H} {b u S X : Int} {h : ge_R} {L : List (ge_R × Int)} {D : Nat} {Q : Option jw_V → jw_H → Prop} (hD : 3 ≤ D) (hN : jm_Ns σ0) (q1 : 1 ≤ σ0 103 3) (q2 : σ0 103 3 ≤ 3) (b0 : 0 ≤ b) (b1 : b < 20) (hs : ∀ x ∈ L, -S ≤ ge_s h x.1 ∧ ge_s h x.1 ≤ S) (hS2 : S ≤ 9200000000000000000) (ht : ∀ x ∈ L, 0 ≤ x.2 ∧ x.2 ≤ 1048575) (hb : ∀ x ∈ L, jm_in4 X x.1) (hS : S * X ≤ 4600000000000000000) (hTot : L.length + (ge_new h (jm_ed σ0) (jm_nt b) L L).length ≤ 64) (kk : ∀ σ1 l6, jm_c2 σ0 h (L ++ ge_new h (jm_ed σ0) (jm_nt b) L L) σ1 → jw_W (js_S n) D md_240 71 [some (.inr (.inr 103)), some (.inl b), some (.inr (.inl u)), none, some (.inl ((L.length : Int))), some (.inl ((L.length : Int))), l6] [] σ1 Q) : ∀ (m : Nat) {σ : jw_H} {k : Int} {l6 : Option jw_V}, 0 ≤ k → k + m = (L.length : Int) → jm_c2 σ0 h (L ++ ge_new h (jm_ed σ0) (jm_nt b) (L.take k.toNat) L) σ → jw_W (js_S n) D md_240 40 [some (.inr (.inr 103)), some (.inl b), some (.inr (.inl u)), none, some (.inl ((L.length : Int))), some (.inl k), l6] [] σ Q
  | m, σ, k, l6, k0, hk, hI => by
    have ih : ∀ {σ' : jw_H} {l : Option jw_V}, k < (L.length : Int) → jm_c2 σ0 h (L ++ ge_new h (jm_ed σ0) (jm_nt b) (L.take (k + 1).toNat) L) σ' → jw_W (js_S n) D md_240 40 [some (.inr (.inr 103)), some (.inl b), some (.inr (.inl u)), none, some (.inl ((L.length : Int))), some (.inl (k + 1)), l] [] σ' Q := by
      intro σ' l h1 h2
      match m, hk with
      | 0, hk => omega
      | m + 1, hk => exact jm_cuts2 hD hN q1 q2 b0 b1 hs hS2 ht hb hS hTot kk m (by omega) (by omega) h2
    have hl64 : L.length ≤ 64 := by omega
    have hx' : k < (L.length : Int) → ∃ x, L[k.toNat]? = some x ∧ x ∈ L := fun h => by
      have h3 : k.toNat < L.length := by omega
      exact ⟨L[k.toNat], List.getElem?_eq_getElem h3, List.getElem_mem h3⟩
    refine jw_W_n 2 (i' := 42) (ls' := [some (.inr (.inr 103)), some (.inl b), some (.inr (.inl u)), none, some (.inl ((L.length : Int))), some (.inl k), l6]) (st' := [.inl ((L.length : Int)), .inl k]) rfl ?_
    refine jw_W_ic rfl (by unfold jw_rg; omega) (by unfold jw_rg; omega) (fun hc1 => ?_) (fun hc1 => ?_)
    · have hc1 : k ≥ ((L.length : Int)) := hc1
      have hkl : k = (L.length : Int) := by omega
      subst hkl
      rw [Int.toNat_natCast, List.take_length] at hI
      exact kk σ l6 hI
    · have hc1 : ¬ (k ≥ ((L.length : Int))) := hc1
      refine jw_W_n 2 (i' := 45) (ls' := [some (.inr (.inr 103)), some (.inl b), some (.inr (.inl u)), none, some (.inl ((L.length : Int))), some (.inl k), some (.inl 0)]) (st' := []) rfl ?_
      obtain ⟨x, hx, hxm⟩ := hx' (by omega)
      have hxs := hs x hxm
      by_cases sx : ge_s h x.1 < 0
      · refine jm_cuts2i hD hN q1 q2 b0 b1 hs hS2 ht hb hS hTot k0 hx sx (fun σ1 j hI1 => ?_) L.length (j := 0) (by omega) (by omega) ?_
        · skip
          refine jw_W_n 2 (i' := 40) (ls' := [some (.inr (.inr 103)), some (.inl b), some (.inr (.inl u)), none, some (.inl ((L.length : Int))), some (.inl (k + 1)), some (.inl j)]) (st' := []) rfl ?_
          exact ih (by omega) (by rw [jm_new_s k0 hx, if_pos sx]; exact hI1)
        · rw [show jm_inn h (jm_ed σ0) (jm_nt b) x (L.take (0 : Int).toNat) = [] from rfl, List.append_nil]
          exact hI
      · have hxA := List.getElem?_append_left (l₂ := ge_new h (jm_ed σ0) (jm_nt b) (L.take k.toNat) L) (List.getElem?_eq_some_iff.mp hx).1
        rw [hx] at hxA
        have hsx := hI.2.2 _ _ hxA
        rw [Int.toNat_of_nonneg k0] at hsx
        refine jw_W_n 2 (i' := 47) (ls' := [some (.inr (.inr 103)), some (.inl b), some (.inr (.inl u)), none, some (.inl ((L.length : Int))), some (.inl k), some (.inl 0)]) (st' := [.inl ((L.length : Int)), .inl 0]) rfl ?_
        refine jw_W_ic rfl (by unfold jw_rg; omega) (by unfold jw_rg; omega) (fun hc1 => ?_) (fun hc1 => ?_)
        · have hc1 : 0 ≥ ((L.length : Int)) := hc1
          refine jw_W_n 2 (i' := 40) (ls' := [some (.inr (.inr 103)), some (.inl b), some (.inr (.inl u)), none, some (.inl ((L.length : Int))), some (.inl (k + 1)), some (.inl 0)]) (st' := []) rfl ?_
          first
            | exact ih (by omega) (by rw [jm_new_s k0 hx, if_neg sx, List.append_nil]; exact hI)
            | (exfalso; omega)
        · have hc1 : ¬ (0 ≥ ((L.length : Int))) := hc1
          refine jw_W_n 1 (i' := 49) (ls' := [some (.inr (.inr 103)), some (.inl b), some (.inr (.inl u)), none, some (.inl ((L.length : Int))), some (.inl k), some (.inl 0)]) (st' := [.inr (.inr 103)]) rfl ?_
          refine jw_W_gf rfl rfl rfl ?_
          show jw_W (js_S n) _ md_240 50 [some (.inr (.inr 103)), some (.inl b), some (.inr (.inl u)), none, some (.inl ((L.length : Int))), some (.inl k), some (.inl 0)] [.inr (.inr 129)] σ _
          refine jw_W_n 1 (i' := 51) (ls' := [some (.inr (.inr 103)), some (.inl b), some (.inr (.inl u)), none, some (.inl ((L.length : Int))), some (.inl k), some (.inl 0)]) (st' := [.inl k, .inr (.inr 129)]) rfl ?_
          refine jw_W_la rfl rfl (by omega) (by omega) (by omega) ?_
          show jw_W (js_S n) _ md_240 52 [some (.inr (.inr 103)), some (.inl b), some (.inr (.inl u)), none, some (.inl ((L.length : Int))), some (.inl k), some (.inl 0)] [.inr (.inl (σ 129 k))] σ _
          rw [hsx]
          refine jw_W_n 1 (i' := 53) (ls' := [some (.inr (.inr 103)), some (.inl b), some (.inr (.inl u)), none, some (.inl ((L.length : Int))), some (.inl k), some (.inl 0)]) (st' := [.inr (.inl 0), .inr (.inl ((ge_s h x.1)))]) rfl ?_
          refine jw_W_lc rfl rfl (by unfold jw_rgl; omega) (by unfold jw_rgl; omega) (fun hc2 => ?_) (fun hc2 => ?_)
          · have hc2 : ((ge_s h x.1)) ≥ 0 := hc2
            refine jw_W_n 2 (i' := 40) (ls' := [some (.inr (.inr 103)), some (.inl b), some (.inr (.inl u)), none, some (.inl ((L.length : Int))), some (.inl (k + 1)), some (.inl 0)]) (st' := []) rfl ?_
            first
              | exact ih (by omega) (by rw [jm_new_s k0 hx, if_neg sx, List.append_nil]; exact hI)
              | (exfalso; omega)
          · have hc2 : ¬ (((ge_s h x.1)) ≥ 0) := hc2
            omega
def jm_flt (h : ge_R) (A : List (ge_R × Int)) : List (ge_R × Int) := A.filter (fun x => decide (ge_s h x.1 ≤ 0))
def jm_c3 (σ0 : jw_H) (h : ge_R) (A : List (ge_R × Int)) (σ : jw_H) (m k : Int) : Prop := jm_fr σ0 σ ∧ σ 103 46 = (A.length : Int) ∧ m = ((jm_flt h (A.take k.toNat)).length : Int) ∧ (∀ (i : Nat) (x : ge_R × Int), (jm_flt h (A.take k.toNat))[i]? = some x → jm_pt σ (i : Int) = x.1 ∧ σ 130 (i : Int) = x.2) ∧ (∀ (i : Nat) (x : ge_R × Int), A[i]? = some x → k ≤ (i : Int) → jm_pt σ (i : Int) = x.1 ∧ σ 130 (i : Int) = x.2) ∧ ∀ (i : Nat) (x : ge_R × Int), A[i]? = some x → σ 129 (i : Int) = ge_s h x.1
theorem jm_flt_s {h : ge_R} {A : List (ge_R × Int)} {k : Int} {x : ge_R × Int} (k0 : 0 ≤ k) (hx : A[k.toNat]? = some x) : jm_flt h (A.take (k + 1).toNat) = jm_flt h (A.take k.toNat) ++ (if ge_s h x.1 ≤ 0 then [x] else []) := by
  unfold jm_flt
  rw [jm_take k0 hx, List.filter_append]
  congr 1
  by_cases hs : ge_s h x.1 ≤ 0
  · rw [if_pos hs, List.filter_cons_of_pos (by rw [decide_eq_true hs])]
    rfl
  · rw [if_neg hs, List.filter_cons_of_neg (by rw [decide_eq_false hs]; decide)]
    rfl
theorem jm_c3_no {σ0 σ : jw_H} {h : ge_R} {A : List (ge_R × Int)} {m k : Int} {x : ge_R × Int} (H : jm_c3 σ0 h A σ m k) (k0 : 0 ≤ k) (hx : A[k.toNat]? = some x) (hs : 0 < ge_s h x.1) : jm_c3 σ0 h A σ m (k + 1) := by
  obtain ⟨a1, a2, a3, a4, a5, a6⟩ := H
  have e := jm_flt_s (h := h) k0 hx
  rw [if_neg (by omega), List.append_nil] at e
  refine ⟨a1, a2, by rw [e]; exact a3, fun i y hy => a4 i y (by rw [← e]; exact hy), fun i y hy hi => a5 i y hy (by omega), a6⟩
theorem jm_c3_up {σ0 σ : jw_H} {h : ge_R} {A : List (ge_R × Int)} {m k : Int} {x : ge_R × Int} (H : jm_c3 σ0 h A σ m k) (k0 : 0 ≤ k) (hx : A[k.toNat]? = some x) (hs : ¬ 0 < ge_s h x.1) : jm_c3 σ0 h A (jm_lpp σ m x.1 x.2) (m + 1) (k + 1) := by
  obtain ⟨a1, a2, a3, a4, a5, a6⟩ := H
  have e := jm_flt_s (h := h) k0 hx
  rw [if_pos (by omega)] at e
  have hle : (jm_flt h (A.take k.toNat)).length ≤ k.toNat := by
    unfold jm_flt
    have h1 := List.length_filter_le (fun x : ge_R × Int => decide (ge_s h x.1 ≤ 0)) (A.take k.toNat)
    have h2 := List.length_take_le k.toNat A
    omega
  refine ⟨jm_fr_lpp a1, by rw [jm_o_lpp _ _ _ _ (by omega)]; exact a2, by rw [e, List.length_append, List.length_singleton]; omega, fun i y hy => ?_, fun i y hy hi => ?_, fun i y hy => ?_⟩
  · rw [e] at hy
    rw [jm_pt_lpp, jm_tt_lpp]
    by_cases hi : i < (jm_flt h (A.take k.toNat)).length
    · rw [List.getElem?_append_left hi] at hy
      rw [if_neg (by omega), if_neg (by omega)]
      exact a4 i y hy
    · rw [List.getElem?_append_right (by omega)] at hy
      have hi2 : i = (jm_flt h (A.take k.toNat)).length := by
        have := (List.getElem?_eq_some_iff.mp hy).1
        simp at this
        omega
      subst hi2
      simp at hy
      subst hy
      rw [if_pos (by omega), if_pos (by omega)]
      exact ⟨rfl, rfl⟩
  · rw [jm_pt_lpp, jm_tt_lpp, if_neg (by omega), if_neg (by omega)]
    exact a5 i y hy (by omega)
  · rw [jm_o_lpp _ _ _ _ (.inl rfl)]
    exact a6 i y hy
theorem jm_c2_c3 {σ0 σ : jw_H} {h : ge_R} {A : List (ge_R × Int)} (H : jm_c2 σ0 h A σ) : jm_c3 σ0 h A σ 0 0 := ⟨H.1, H.2.1.1, rfl, fun i x hx => by simp [jm_flt] at hx, fun i x hx _ => H.2.1.2 i x hx, H.2.2⟩
theorem ge_pp_id {v : ge_R} (hg : ge_g v = 1) (hw : 0 < v.2.2.2) : ge_pp v = v := (ge_pp_eq hg hw hw ⟨rfl, rfl, rfl⟩).symm
theorem jm_cuts3 {n : Nat} {σ0 : jw_H} {b u S X len : Int} {h : ge_R} {A : List (ge_R × Int)} {D : Nat} {Q : Option jw_V → jw_H → Prop} (hD : 2 ≤ D) (hA : A.length ≤ 64) (hs : ∀ x ∈ A, -S ≤ ge_s h x.1 ∧ ge_s h x.1 ≤ S) (hS2 : S ≤ 9200000000000000000) (hX2 : X ≤ 9200000000000000000) (hb : ∀ x ∈ A, jm_in4 X x.1 ∧ ge_g x.1 = 1) (hQ : ∀ σ', jm_fr σ0 σ' → jm_is σ' (jm_flt h A) → Q none σ') : ∀ (f : Nat) {σ : jw_H} {m k : Int}, 0 ≤ k → k + f = (A.length : Int) → jm_c3 σ0 h A σ m k → jw_W (js_S n) D md_240 75 [some (.inr (.inr 103)), some (.inl b), some (.inr (.inl u)), none, some (.inl len), some (.inl m), some (.inl k)] [] σ Q
  | f, σ, m, k, k0, hk, hI => by
    have ih : ∀ {σ' : jw_H} {m' : Int}, k < (A.length : Int) → jm_c3 σ0 h A σ' m' (k + 1) → jw_W (js_S n) D md_240 75 [some (.inr (.inr 103)), some (.inl b), some (.inr (.inl u)), none, some (.inl len), some (.inl m'), some (.inl (k + 1))] [] σ' Q := by
      intro σ' m' h1 h2
      match f, hk with
      | 0, hk => omega
      | f + 1, hk => exact jm_cuts3 hD hA hs hS2 hX2 hb hQ f (by omega) (by omega) h2
    have hm := hI.2.1
    have hm3 := hI.2.2.1
    have hle : (jm_flt h (A.take k.toNat)).length ≤ k.toNat := by
      unfold jm_flt
      have h1 := List.length_filter_le (fun x : ge_R × Int => decide (ge_s h x.1 ≤ 0)) (A.take k.toNat)
      have h2 := List.length_take_le k.toNat A
      omega
    have hx' : k < (A.length : Int) → ∃ x, A[k.toNat]? = some x ∧ x ∈ A := fun h => by
      have h3 : k.toNat < A.length := by omega
      exact ⟨A[k.toNat], List.getElem?_eq_getElem h3, List.getElem_mem h3⟩
    refine jw_W_n 2 (i' := 77) (ls' := [some (.inr (.inr 103)), some (.inl b), some (.inr (.inl u)), none, some (.inl len), some (.inl m), some (.inl k)]) (st' := [.inr (.inr 103), .inl k]) rfl ?_
    refine jw_W_gf rfl rfl rfl ?_
    show jw_W (js_S n) _ md_240 78 [some (.inr (.inr 103)), some (.inl b), some (.inr (.inl u)), none, some (.inl len), some (.inl m), some (.inl k)] [.inl (σ 103 46), .inl k] σ _
    rw [hm]
    refine jw_W_ic rfl (by unfold jw_rg; omega) (by unfold jw_rg; omega) (fun hc1 => ?_) (fun hc1 => ?_)
    · have hc1 : k ≥ ((A.length : Int)) := hc1
      refine jw_W_n 2 (i' := 117) (ls' := [some (.inr (.inr 103)), some (.inl b), some (.inr (.inl u)), none, some (.inl len), some (.inl m), some (.inl k)]) (st' := [.inl m, .inr (.inr 103)]) rfl ?_
      refine jw_W_pf (a := m) rfl (by omega) rfl rfl rfl rfl rfl ?_
      refine jw_W_re rfl ?_
      have hkA : k.toNat = A.length := by omega
      refine hQ _ (jm_fr_up hI.1 (by omega)) ⟨?_, fun i y hy => ?_⟩
      · have h3 := hI.2.2.1
        rw [hkA, List.take_length] at h3
        exact (jw_up_eq _ _ _ _).trans h3
      · have h4 := hI.2.2.2.1
        rw [hkA, List.take_length] at h4
        have h5 := h4 i y hy
        refine ⟨?_, ?_⟩
        · rw [← h5.1]
          simp [jm_pt, jw_up]
        · rw [← h5.2]
          exact jw_up_ne _ (by omega)
    · have hc1 : ¬ (k ≥ ((A.length : Int))) := hc1
      obtain ⟨x, hx, hxm⟩ := hx' (by omega)
      have hsx := hI.2.2.2.2.2 _ _ hx
      obtain ⟨hpt, htt⟩ := hI.2.2.2.2.1 _ _ hx (by omega)
      rw [Int.toNat_of_nonneg k0] at hsx hpt htt
      have hxs := hs x hxm
      obtain ⟨⟨bx1, bx2, bx3, bx4⟩, gx⟩ := hb x hxm
      have hpt4 : (σ 125 k, σ 126 k, σ 127 k, σ 128 k) = x.1 := hpt
      rw [← hpt4] at bx1 bx2 bx3 bx4
      simp only at bx1 bx2 bx3 bx4
      refine jw_W_n 1 (i' := 80) (ls' := [some (.inr (.inr 103)), some (.inl b), some (.inr (.inl u)), none, some (.inl len), some (.inl m), some (.inl k)]) (st' := [.inr (.inr 103)]) rfl ?_
      refine jw_W_gf rfl rfl rfl ?_
      show jw_W (js_S n) _ md_240 81 [some (.inr (.inr 103)), some (.inl b), some (.inr (.inl u)), none, some (.inl len), some (.inl m), some (.inl k)] [.inr (.inr 129)] σ _
      refine jw_W_n 1 (i' := 82) (ls' := [some (.inr (.inr 103)), some (.inl b), some (.inr (.inl u)), none, some (.inl len), some (.inl m), some (.inl k)]) (st' := [.inl k, .inr (.inr 129)]) rfl ?_
      refine jw_W_la rfl rfl (by omega) (by omega) (by omega) ?_
      show jw_W (js_S n) _ md_240 83 [some (.inr (.inr 103)), some (.inl b), some (.inr (.inl u)), none, some (.inl len), some (.inl m), some (.inl k)] [.inr (.inl (σ 129 k))] σ _
      rw [hsx]
      refine jw_W_n 1 (i' := 84) (ls' := [some (.inr (.inr 103)), some (.inl b), some (.inr (.inl u)), none, some (.inl len), some (.inl m), some (.inl k)]) (st' := [.inr (.inl 0), .inr (.inl ((ge_s h x.1)))]) rfl ?_
      refine jw_W_lc rfl rfl (by unfold jw_rgl; omega) (by unfold jw_rgl; omega) (fun hc2 => ?_) (fun hc2 => ?_)
      · have hc2 : ((ge_s h x.1)) > 0 := hc2
        refine jw_W_n 2 (i' := 75) (ls' := [some (.inr (.inr 103)), some (.inl b), some (.inr (.inl u)), none, some (.inl len), some (.inl m), some (.inl (k + 1))]) (st' := []) rfl ?_
        first
          | exact ih (by omega) (jm_c3_no hI k0 hx (by assumption))
          | exact ih (by omega) (jm_c3_up hI k0 hx (by assumption))
      · have hc2 : ¬ (((ge_s h x.1)) > 0) := hc2
        refine jw_W_n 3 (i' := 89) (ls' := [some (.inr (.inr 103)), some (.inl b), some (.inr (.inl u)), none, some (.inl len), some (.inl m), some (.inl k)]) (st' := [.inr (.inr 103), .inl m, .inr (.inr 103)]) rfl ?_
        refine jw_W_gf rfl rfl rfl ?_
        show jw_W (js_S n) _ md_240 90 [some (.inr (.inr 103)), some (.inl b), some (.inr (.inl u)), none, some (.inl len), some (.inl m), some (.inl k)] [.inr (.inr 125), .inl m, .inr (.inr 103)] σ _
        refine jw_W_n 1 (i' := 91) (ls' := [some (.inr (.inr 103)), some (.inl b), some (.inr (.inl u)), none, some (.inl len), some (.inl m), some (.inl k)]) (st' := [.inl k, .inr (.inr 125), .inl m, .inr (.inr 103)]) rfl ?_
        refine jw_W_la rfl rfl (by omega) (by omega) (by omega) ?_
        show jw_W (js_S n) _ md_240 92 [some (.inr (.inr 103)), some (.inl b), some (.inr (.inl u)), none, some (.inl len), some (.inl m), some (.inl k)] [.inr (.inl (σ 125 k)), .inl m, .inr (.inr 103)] σ _
        refine jw_W_n 1 (i' := 93) (ls' := [some (.inr (.inr 103)), some (.inl b), some (.inr (.inl u)), none, some (.inl len), some (.inl m), some (.inl k)]) (st' := [.inr (.inr 103), .inr (.inl (σ 125 k)), .inl m, .inr (.inr 103)]) rfl ?_
        refine jw_W_gf rfl rfl rfl ?_
        show jw_W (js_S n) _ md_240 94 [some (.inr (.inr 103)), some (.inl b), some (.inr (.inl u)), none, some (.inl len), some (.inl m), some (.inl k)] [.inr (.inr 126), .inr (.inl (σ 125 k)), .inl m, .inr (.inr 103)] σ _
        refine jw_W_n 1 (i' := 95) (ls' := [some (.inr (.inr 103)), some (.inl b), some (.inr (.inl u)), none, some (.inl len), some (.inl m), some (.inl k)]) (st' := [.inl k, .inr (.inr 126), .inr (.inl (σ 125 k)), .inl m, .inr (.inr 103)]) rfl ?_
        refine jw_W_la rfl rfl (by omega) (by omega) (by omega) ?_
        show jw_W (js_S n) _ md_240 96 [some (.inr (.inr 103)), some (.inl b), some (.inr (.inl u)), none, some (.inl len), some (.inl m), some (.inl k)] [.inr (.inl (σ 126 k)), .inr (.inl (σ 125 k)), .inl m, .inr (.inr 103)] σ _
        refine jw_W_n 1 (i' := 97) (ls' := [some (.inr (.inr 103)), some (.inl b), some (.inr (.inl u)), none, some (.inl len), some (.inl m), some (.inl k)]) (st' := [.inr (.inr 103), .inr (.inl (σ 126 k)), .inr (.inl (σ 125 k)), .inl m, .inr (.inr 103)]) rfl ?_
        refine jw_W_gf rfl rfl rfl ?_
        show jw_W (js_S n) _ md_240 98 [some (.inr (.inr 103)), some (.inl b), some (.inr (.inl u)), none, some (.inl len), some (.inl m), some (.inl k)] [.inr (.inr 127), .inr (.inl (σ 126 k)), .inr (.inl (σ 125 k)), .inl m, .inr (.inr 103)] σ _
        refine jw_W_n 1 (i' := 99) (ls' := [some (.inr (.inr 103)), some (.inl b), some (.inr (.inl u)), none, some (.inl len), some (.inl m), some (.inl k)]) (st' := [.inl k, .inr (.inr 127), .inr (.inl (σ 126 k)), .inr (.inl (σ 125 k)), .inl m, .inr (.inr 103)]) rfl ?_
        refine jw_W_la rfl rfl (by omega) (by omega) (by omega) ?_
        show jw_W (js_S n) _ md_240 100 [some (.inr (.inr 103)), some (.inl b), some (.inr (.inl u)), none, some (.inl len), some (.inl m), some (.inl k)] [.inr (.inl (σ 127 k)), .inr (.inl (σ 126 k)), .inr (.inl (σ 125 k)), .inl m, .inr (.inr 103)] σ _
        refine jw_W_n 1 (i' := 101) (ls' := [some (.inr (.inr 103)), some (.inl b), some (.inr (.inl u)), none, some (.inl len), some (.inl m), some (.inl k)]) (st' := [.inr (.inr 103), .inr (.inl (σ 127 k)), .inr (.inl (σ 126 k)), .inr (.inl (σ 125 k)), .inl m, .inr (.inr 103)]) rfl ?_
        refine jw_W_gf rfl rfl rfl ?_
        show jw_W (js_S n) _ md_240 102 [some (.inr (.inr 103)), some (.inl b), some (.inr (.inl u)), none, some (.inl len), some (.inl m), some (.inl k)] [.inr (.inr 128), .inr (.inl (σ 127 k)), .inr (.inl (σ 126 k)), .inr (.inl (σ 125 k)), .inl m, .inr (.inr 103)] σ _
        refine jw_W_n 1 (i' := 103) (ls' := [some (.inr (.inr 103)), some (.inl b), some (.inr (.inl u)), none, some (.inl len), some (.inl m), some (.inl k)]) (st' := [.inl k, .inr (.inr 128), .inr (.inl (σ 127 k)), .inr (.inl (σ 126 k)), .inr (.inl (σ 125 k)), .inl m, .inr (.inr 103)]) rfl ?_
        refine jw_W_la rfl rfl (by omega) (by omega) (by omega) ?_
        show jw_W (js_S n) _ md_240 104 [some (.inr (.inr 103)), some (.inl b), some (.inr (.inl u)), none, some (.inl len), some (.inl m), some (.inl k)] [.inr (.inl (σ 128 k)), .inr (.inl (σ 127 k)), .inr (.inl (σ 126 k)), .inr (.inl (σ 125 k)), .inl m, .inr (.inr 103)] σ _
        refine jw_W_n 1 (i' := 105) (ls' := [some (.inr (.inr 103)), some (.inl b), some (.inr (.inl u)), none, some (.inl len), some (.inl m), some (.inl k)]) (st' := [.inr (.inr 103), .inr (.inl (σ 128 k)), .inr (.inl (σ 127 k)), .inr (.inl (σ 126 k)), .inr (.inl (σ 125 k)), .inl m, .inr (.inr 103)]) rfl ?_
        refine jw_W_gf rfl rfl rfl ?_
        show jw_W (js_S n) _ md_240 106 [some (.inr (.inr 103)), some (.inl b), some (.inr (.inl u)), none, some (.inl len), some (.inl m), some (.inl k)] [.inr (.inr 130), .inr (.inl (σ 128 k)), .inr (.inl (σ 127 k)), .inr (.inl (σ 126 k)), .inr (.inl (σ 125 k)), .inl m, .inr (.inr 103)] σ _
        refine jw_W_n 1 (i' := 107) (ls' := [some (.inr (.inr 103)), some (.inl b), some (.inr (.inl u)), none, some (.inl len), some (.inl m), some (.inl k)]) (st' := [.inl k, .inr (.inr 130), .inr (.inl (σ 128 k)), .inr (.inl (σ 127 k)), .inr (.inl (σ 126 k)), .inr (.inl (σ 125 k)), .inl m, .inr (.inr 103)]) rfl ?_
        refine jw_W_ia rfl rfl (by omega) (by omega) (by omega) ?_
        show jw_W (js_S n) _ md_240 108 [some (.inr (.inr 103)), some (.inl b), some (.inr (.inl u)), none, some (.inl len), some (.inl m), some (.inl k)] [.inl (σ 130 k), .inr (.inl (σ 128 k)), .inr (.inl (σ 127 k)), .inr (.inl (σ 126 k)), .inr (.inl (σ 125 k)), .inl m, .inr (.inr 103)] σ _
        refine jw_W_call (as := [.inr (.inr 103), .inl m, .inr (.inl (σ 125 k)), .inr (.inl (σ 126 k)), .inr (.inl (σ 127 k)), .inr (.inl (σ 128 k)), .inl (σ 130 k)]) (rest := []) rfl rfl rfl rfl (Nat.le_of_ble_eq_true rfl) (.inr rfl) (jm_laysPoint2 (by omega) (by omega) (by unfold jm_bg; omega) (by unfold jm_bg; omega) (by unfold jm_bg; omega) (by omega) (by unfold jm_bg; omega)) (by omega) ?_ rfl
        rintro r1 σ1 ⟨rfl, hs1⟩
        rw [hs1, hpt4, htt, ge_pp_id gx (by rw [← hpt4]; simp only; omega)]
        show jw_W (js_S n) _ md_240 109 [some (.inr (.inr 103)), some (.inl b), some (.inr (.inl u)), none, some (.inl len), some (.inl m), some (.inl k)] [] ((jm_lpp σ m x.1 x.2)) _
        refine jw_W_n 6 (i' := 75) (ls' := [some (.inr (.inr 103)), some (.inl b), some (.inr (.inl u)), none, some (.inl len), some (.inl (m + 1)), some (.inl (k + 1))]) (st' := []) rfl ?_
        first
          | exact ih (by omega) (jm_c3_no hI k0 hx (by assumption))
          | exact ih (by omega) (jm_c3_up hI k0 hx (by assumption))

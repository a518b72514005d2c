/-! ===== the reference's body: it is cut ===== -/
/-- the store holds these points -/
def jm_is (σ : jw_H) (L : List (ge_R × Int)) : Prop := σ 103 46 = (L.length : Int) ∧ ∀ (i : Nat) (x : ge_R × Int), L[i]? = some x → jm_pt σ (i : Int) = x.1 ∧ σ 130 (i : Int) = x.2
def jm_bit (b : Int) (h : ge_R) (x : ge_R × Int) : ge_R × Int := (x.1, if ge_s h x.1 = 0 then jw_or x.2 (jw_shl 1 b) else x.2)
noncomputable def jm_ed (σ : jw_H) (x y : ge_R × Int) : Bool := @decide (jm_LL σ (jw_and x.2 y.2)) (Classical.propDecidable _)
def jm_nt (b : Int) (s t : Int) : Int := jw_or (jw_and s t) (jw_shl 1 b)
def jm_in4 (X : Int) (v : ge_R) : Prop := (0 ≤ v.1 ∧ v.1 ≤ X) ∧ (0 ≤ v.2.1 ∧ v.2.1 ≤ X) ∧ (0 ≤ v.2.2.1 ∧ v.2.2.1 ≤ X) ∧ (0 < v.2.2.2 ∧ v.2.2.2 ≤ X)
/-- but these rows and the number of points nothing is written -/
def jm_fr (σ σ' : jw_H) : Prop := (∀ o, (o < 125 ∨ 130 < o) → o ≠ 103 → σ' o = σ o) ∧ ∀ j, j ≠ 46 → σ' 103 j = σ 103 j
theorem jm_fr_rf (σ : jw_H) : jm_fr σ σ := ⟨fun _ _ _ => rfl, fun _ _ => rfl⟩
theorem jm_fr_tr {σ σ1 σ2 : jw_H} (a : jm_fr σ σ1) (b : jm_fr σ1 σ2) : jm_fr σ σ2 := ⟨fun o h1 h2 => (b.1 o h1 h2).trans (a.1 o h1 h2), fun j h => (b.2 j h).trans (a.2 j h)⟩
theorem jm_fr_up {σ σ' : jw_H} {o : Nat} {j v : Int} (a : jm_fr σ σ') (ho : 125 ≤ o ∧ o ≤ 130 ∨ o = 103 ∧ j = 46) : jm_fr σ (jw_up σ' o j v) := by
  refine ⟨fun o' h1 h2 => ?_, fun j' h => ?_⟩
  · rw [jw_up_out _ _ _ (by omega)]
    exact a.1 o' h1 h2
  · rw [jw_up_ne _ (by omega)]
    exact a.2 j' h
theorem jm_fr_N {σ σ' : jw_H} (a : jm_fr σ σ') : (∀ k, jm_N σ' k = jm_N σ k) ∧ σ' 103 3 = σ 103 3 ∧ (jm_Ns σ → jm_Ns σ') ∧ ∀ b m, jm_rw σ' b m = jm_rw σ b m := by
  have e := a.1 131 (by omega) (by omega)
  refine ⟨fun k => by simp only [jm_N, e], a.2 3 (by omega), fun h j h0 h1 => by rw [e]; exact h j h0 h1, fun b m => by simp only [jm_rw, e]⟩
theorem jm_fr_LL {σ σ' : jw_H} (a : jm_fr σ σ') (s : Int) : jm_LL σ' s ↔ jm_LL σ s := by
  obtain ⟨h1, h2, -⟩ := jm_fr_N a
  simp only [jm_LL, jm_A, h1, h2]
theorem jm_pt_lpp (σ : jw_H) (k : Int) (v : ge_R) (t j : Int) : jm_pt (jm_lpp σ k v t) j = if j = k then v else jm_pt σ j := by
  by_cases h : j = k
  · subst h
    rw [if_pos rfl]
    simp [jm_pt, jm_lpp, jm_lp, jw_up]
  · rw [if_neg h]
    simp [jm_pt, jm_lpp, jm_lp, jw_up, h]
theorem jm_tt_lpp (σ : jw_H) (k : Int) (v : ge_R) (t j : Int) : jm_lpp σ k v t 130 j = if j = k then t else σ 130 j := by
  by_cases h : j = k
  · subst h
    rw [if_pos rfl]
    simp [jm_lpp, jm_lp, jw_up]
  · rw [if_neg h]
    simp [jm_lpp, jm_lp, jw_up, h]
theorem jm_o_lpp (σ : jw_H) (k : Int) (v : ge_R) (t : Int) {o : Nat} (ho : o = 129 ∨ o < 125 ∨ 130 < o) : jm_lpp σ k v t o = σ o := by
  funext j
  simp only [jm_lpp, jm_lp]
  rw [jw_up_ne _ (by omega), jw_up_ne _ (by omega), jw_up_ne _ (by omega), jw_up_ne _ (by omega), jw_up_ne _ (by omega)]
theorem jm_fr_lpp {σ σ' : jw_H} {k t : Int} {v : ge_R} (a : jm_fr σ σ') : jm_fr σ (jm_lpp σ' k v t) := by
  unfold jm_lpp jm_lp
  exact jm_fr_up (jm_fr_up (jm_fr_up (jm_fr_up (jm_fr_up a (by omega)) (by omega)) (by omega)) (by omega)) (by omega)
/-- the first loop, so far -/
def jm_c1 (σ0 : jw_H) (h : ge_R) (b : Int) (L : List (ge_R × Int)) (σ : jw_H) (p : Int) : Prop := jm_fr σ0 σ ∧ σ 103 46 = (L.length : Int) ∧ ∀ (i : Nat) (x : ge_R × Int), L[i]? = some x → jm_pt σ (i : Int) = x.1 ∧ ((i : Int) < p → σ 129 (i : Int) = ge_s h x.1 ∧ σ 130 (i : Int) = (jm_bit b h x).2) ∧ (p ≤ (i : Int) → σ 130 (i : Int) = x.2)
theorem jm_c1_up {σ0 σ : jw_H} {h : ge_R} {b p : Int} {L : List (ge_R × Int)} {x : ge_R × Int} (H : jm_c1 σ0 h b L σ p) (p0 : 0 ≤ p) (hx : L[p.toNat]? = some x) {t : Int} (ht : t = (jm_bit b h x).2) : jm_c1 σ0 h b L (jw_up (jw_up σ 129 p (ge_s h x.1)) 130 p t) (p + 1) := by
  obtain ⟨a1, a2, a3⟩ := H
  refine ⟨jm_fr_up (jm_fr_up a1 (by omega)) (by omega), by rw [jw_up_ne _ (by omega), jw_up_ne _ (by omega)]; exact a2, fun i y hy => ?_⟩
  obtain ⟨b1, b2, b3⟩ := a3 i y hy
  have e1 : jm_pt (jw_up (jw_up σ 129 p (ge_s h x.1)) 130 p t) (i : Int) = jm_pt σ (i : Int) := by simp [jm_pt, jw_up]
  rw [e1]
  refine ⟨b1, fun hi => ?_, fun hi => ?_⟩
  · by_cases hp : (i : Int) = p
    · have hxy : x = y := by
        rw [← hp, Int.toNat_natCast, hy] at hx
        cases hx
        rfl
      subst hxy
      rw [jw_up_ne _ (by omega), hp, jw_up_eq, jw_up_eq]
      exact ⟨rfl, ht⟩
    · rw [jw_up_ne _ (by omega), jw_up_ne _ (by omega), jw_up_ne _ (by omega), jw_up_ne _ (by omega)]
      exact b2 (by omega)
  · rw [jw_up_ne _ (by omega), jw_up_ne _ (by omega)]
    exact b3 (by omega)
theorem jm_c1_up2 {σ0 σ : jw_H} {h : ge_R} {b p : Int} {L : List (ge_R × Int)} {x : ge_R × Int} (H : jm_c1 σ0 h b L σ p) (p0 : 0 ≤ p) (hx : L[p.toNat]? = some x) (hs : ¬ ge_s h x.1 = 0) : jm_c1 σ0 h b L (jw_up σ 129 p (ge_s h x.1)) (p + 1) := by
  have e2 := (H.2.2 p.toNat x hx).2.2 (by omega)
  rw [Int.toNat_of_nonneg p0] at e2
  have k := jm_c1_up H p0 hx (t := σ 130 p) (by rw [e2]; simp only [jm_bit, if_neg hs])
  have e : jw_up (jw_up σ 129 p (ge_s h x.1)) 130 p (σ 130 p) = jw_up σ 129 p (ge_s h x.1) := by
    funext o j
    by_cases hh : o = 130 ∧ j = p
    · obtain ⟨rfl, rfl⟩ := hh
      rw [jw_up_eq, jw_up_ne _ (by omega)]
    · rw [jw_up_ne _ hh]
  rwa [e] at k
theorem jm_cuts1 {n : Nat} {σ0 : jw_H} {b u S : Int} {L : List (ge_R × Int)} {D : Nat} {Q : Option jw_V → jw_H → Prop} (hD : 3 ≤ D) (hN : jm_Ns σ0) (b0 : 0 ≤ b) (b1 : b < 20) (hl : L.length ≤ 64) (hs : ∀ x ∈ L, -S ≤ ge_s (jm_rw σ0 b u) x.1 ∧ ge_s (jm_rw σ0 b u) x.1 ≤ S) (hS : S ≤ 9200000000000000000) (kk : ∀ σ1, jm_c1 σ0 (jm_rw σ0 b u) b L σ1 (L.length : Int) → jw_W (js_S n) D md_240 38 [some (.inr (.inr 103)), some (.inl b), some (.inr (.inl u)), none, some (.inl ((L.length : Int))), some (.inl ((L.length : Int))), none] [] σ1 Q) : ∀ (m : Nat) {σ : jw_H} {k : Int}, 0 ≤ k → k + m = (L.length : Int) → jm_c1 σ0 (jm_rw σ0 b u) b L σ k → jw_W (js_S n) D md_240 5 [some (.inr (.inr 103)), some (.inl b), some (.inr (.inl u)), none, some (.inl ((L.length : Int))), some (.inl k), none] [] σ Q
  | m, σ, k, k0, hk, hI => by
    have ih : ∀ {σ' : jw_H}, k < (L.length : Int) → jm_c1 σ0 (jm_rw σ0 b u) b L σ' (k + 1) → jw_W (js_S n) D md_240 5 [some (.inr (.inr 103)), some (.inl b), some (.inr (.inl u)), none, some (.inl ((L.length : Int))), some (.inl (k + 1)), none] [] σ' Q := by
      intro σ' h1 h2
      match m, hk with
      | 0, hk => omega
      | m + 1, hk => exact jm_cuts1 hD hN b0 b1 hl hs hS kk m (by omega) (by omega) h2
    have hkl : k ≤ (L.length : Int) := by omega
    have hx' : k < (L.length : Int) → ∃ x, L[k.toNat]? = some x ∧ x ∈ L := fun h => by
      have h3 : k.toNat < L.length := by omega
      exact ⟨L[k.toNat], List.getElem?_eq_getElem h3, List.getElem_mem h3⟩
    obtain ⟨fr1, hp2, hN1', hr⟩ := jm_fr_N hI.1
    have hN1 := hN1' hN
    have hr1 := hr b u
    refine jw_W_n 2 (i' := 7) (ls' := [some (.inr (.inr 103)), some (.inl b), some (.inr (.inl u)), none, some (.inl ((L.length : Int))), some (.inl k), none]) (st' := [.inl ((L.length : Int)), .inl k]) rfl ?_
    refine jw_W_ic rfl (by unfold jw_rg; omega) (by unfold jw_rg; omega) (fun hc1 => ?_) (fun hc1 => ?_)
    · have hc1 : k ≥ ((L.length : Int)) := hc1
      have hkl : k = (L.length : Int) := by omega
      subst hkl
      exact kk σ hI
    · have hc1 : ¬ (k ≥ ((L.length : Int))) := hc1
      obtain ⟨x, hx, hxm⟩ := hx' (by omega)
      obtain ⟨hp1, -, ht2⟩ := hI.2.2 k.toNat x hx
      rw [Int.toNat_of_nonneg k0] at hp1 ht2
      have ht2 := ht2 (Int.le_refl _)
      have hs1 := hs x hxm
      refine jw_W_n 1 (i' := 9) (ls' := [some (.inr (.inr 103)), some (.inl b), some (.inr (.inl u)), none, some (.inl ((L.length : Int))), some (.inl k), none]) (st' := [.inr (.inr 103)]) rfl ?_
      refine jw_W_gf rfl rfl rfl ?_
      show jw_W (js_S n) _ md_240 10 [some (.inr (.inr 103)), some (.inl b), some (.inr (.inl u)), none, some (.inl ((L.length : Int))), some (.inl k), none] [.inr (.inr 129)] σ _
      refine jw_W_n 5 (i' := 15) (ls' := [some (.inr (.inr 103)), some (.inl b), some (.inr (.inl u)), none, some (.inl ((L.length : Int))), some (.inl k), none]) (st' := [.inr (.inl u), .inl b, .inl k, .inr (.inr 103), .inl k, .inr (.inr 129)]) rfl ?_
      refine jw_W_call (as := [.inr (.inr 103), .inl k, .inl b, .inr (.inl u)]) (rest := [.inl k, .inr (.inr 129)]) rfl rfl rfl rfl (Nat.le_of_ble_eq_true rfl) (.inr rfl) (jm_sideOf hN1 (by omega) (by omega) (by omega) (by omega)) (by omega) ?_ rfl
      rintro r1 σ1 ⟨rfl, hs⟩
      rw [hs]
      show jw_W (js_S n) _ md_240 16 [some (.inr (.inr 103)), some (.inl b), some (.inr (.inl u)), none, some (.inl ((L.length : Int))), some (.inl k), none] [.inr (.inl (ge_s (jm_rw σ b u) (jm_pt σ k))), .inl k, .inr (.inr 129)] σ _
      rw [hr1, hp1]
      refine jw_W_ls rfl (by omega) rfl (by omega) (by omega) (by omega) ?_
      refine jw_W_n 1 (i' := 18) (ls' := [some (.inr (.inr 103)), some (.inl b), some (.inr (.inl u)), none, some (.inl ((L.length : Int))), some (.inl k), none]) (st' := [.inr (.inr 103)]) rfl ?_
      refine jw_W_gf rfl rfl rfl ?_
      show jw_W (js_S n) _ md_240 19 [some (.inr (.inr 103)), some (.inl b), some (.inr (.inl u)), none, some (.inl ((L.length : Int))), some (.inl k), none] [.inr (.inr 129)] ((jw_up σ 129 k ((ge_s (jm_rw σ0 b u) x.1)))) _
      refine jw_W_n 1 (i' := 20) (ls' := [some (.inr (.inr 103)), some (.inl b), some (.inr (.inl u)), none, some (.inl ((L.length : Int))), some (.inl k), none]) (st' := [.inl k, .inr (.inr 129)]) rfl ?_
      refine jw_W_la rfl rfl (by omega) (by omega) (by omega) ?_
      show jw_W (js_S n) _ md_240 21 [some (.inr (.inr 103)), some (.inl b), some (.inr (.inl u)), none, some (.inl ((L.length : Int))), some (.inl k), none] [.inr (.inl ((jw_up σ 129 k ((ge_s (jm_rw σ0 b u) x.1))) 129 k))] ((jw_up σ 129 k ((ge_s (jm_rw σ0 b u) x.1)))) _
      refine jw_W_n 1 (i' := 22) (ls' := [some (.inr (.inr 103)), some (.inl b), some (.inr (.inl u)), none, some (.inl ((L.length : Int))), some (.inl k), none]) (st' := [.inr (.inl 0), .inr (.inl ((jw_up σ 129 k ((ge_s (jm_rw σ0 b u) x.1))) 129 k))]) rfl ?_
      rw [show (jw_up σ 129 k ((ge_s (jm_rw σ0 b u) x.1))) 129 k = (ge_s (jm_rw σ0 b u) x.1) from jw_up_eq _ _ _ _]
      refine jw_W_lc rfl rfl (by unfold jw_rgl; omega) (by unfold jw_rgl; omega) (fun hc2 => ?_) (fun hc2 => ?_)
      · have hc2 : ((ge_s (jm_rw σ0 b u) x.1)) ≠ 0 := hc2
        refine jw_W_n 2 (i' := 5) (ls' := [some (.inr (.inr 103)), some (.inl b), some (.inr (.inl u)), none, some (.inl ((L.length : Int))), some (.inl (k + 1)), none]) (st' := []) rfl ?_
        first
          | exact ih (by omega) (jm_c1_up2 hI k0 hx (by assumption))
          | exact ih (by omega) (jm_c1_up hI k0 hx (by rw [ht2]; simp only [jm_bit]; rw [if_pos (by assumption)]))
      · have hc2 : ((ge_s (jm_rw σ0 b u) x.1)) = 0 := Classical.not_not.mp hc2
        refine jw_W_n 1 (i' := 25) (ls' := [some (.inr (.inr 103)), some (.inl b), some (.inr (.inl u)), none, some (.inl ((L.length : Int))), some (.inl k), none]) (st' := [.inr (.inr 103)]) rfl ?_
        refine jw_W_gf rfl rfl rfl ?_
        show jw_W (js_S n) _ md_240 26 [some (.inr (.inr 103)), some (.inl b), some (.inr (.inl u)), none, some (.inl ((L.length : Int))), some (.inl k), none] [.inr (.inr 130)] ((jw_up σ 129 k ((ge_s (jm_rw σ0 b u) x.1)))) _
        refine jw_W_n 2 (i' := 28) (ls' := [some (.inr (.inr 103)), some (.inl b), some (.inr (.inl u)), none, some (.inl ((L.length : Int))), some (.inl k), none]) (st' := [.inr (.inr 103), .inl k, .inr (.inr 130)]) rfl ?_
        refine jw_W_gf rfl rfl rfl ?_
        show jw_W (js_S n) _ md_240 29 [some (.inr (.inr 103)), some (.inl b), some (.inr (.inl u)), none, some (.inl ((L.length : Int))), some (.inl k), none] [.inr (.inr 130), .inl k, .inr (.inr 130)] ((jw_up σ 129 k ((ge_s (jm_rw σ0 b u) x.1)))) _
        refine jw_W_n 1 (i' := 30) (ls' := [some (.inr (.inr 103)), some (.inl b), some (.inr (.inl u)), none, some (.inl ((L.length : Int))), some (.inl k), none]) (st' := [.inl k, .inr (.inr 130), .inl k, .inr (.inr 130)]) rfl ?_
        refine jw_W_ia rfl rfl (by omega) (by omega) (by omega) ?_
        show jw_W (js_S n) _ md_240 31 [some (.inr (.inr 103)), some (.inl b), some (.inr (.inl u)), none, some (.inl ((L.length : Int))), some (.inl k), none] [.inl (σ 130 k), .inl k, .inr (.inr 130)] ((jw_up σ 129 k ((ge_s (jm_rw σ0 b u) x.1)))) _
        refine jw_W_n 4 (i' := 35) (ls' := [some (.inr (.inr 103)), some (.inl b), some (.inr (.inl u)), none, some (.inl ((L.length : Int))), some (.inl k), none]) (st' := [.inl (jw_or (σ 130 k) (jw_shl 1 b)), .inl k, .inr (.inr 130)]) rfl ?_
        refine jw_W_is rfl (by omega) rfl (by omega) (by omega) (by omega) ?_
        refine jw_W_n 2 (i' := 5) (ls' := [some (.inr (.inr 103)), some (.inl b), some (.inr (.inl u)), none, some (.inl ((L.length : Int))), some (.inl (k + 1)), none]) (st' := []) rfl ?_
        first
          | exact ih (by omega) (jm_c1_up2 hI k0 hx (by assumption))
          | exact ih (by omega) (jm_c1_up hI k0 hx (by rw [ht2]; simp only [jm_bit]; rw [if_pos (by assumption)]))

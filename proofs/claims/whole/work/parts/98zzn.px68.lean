/-! ===== behind: the reference ===== -/
/-- of some corners those with the most of one wish, of these .. -/
def jn_msx (σ : jw_H) : List Int → (Int → Prop) → Int → Prop
  | [], T, i => T i
  | d :: ds, T, i => jn_msx σ ds (fun b => T b ∧ ∀ c, 0 ≤ c → c < σ 103 56 → T c → ¬ jm_wl σ d b c) i
theorem jn_msx_ah {σ : jw_H} (hcb : jm_cbd σ) : ∀ {ds : List Int} {T : Int → Prop} {i : Int}, 0 ≤ i → i < σ 103 56 → (jn_msx σ ds T i ↔ T i ∧ ∀ j, 0 ≤ j → j < σ 103 56 → T j → ¬ jn_ah σ ds j i)
  | [], T, i, _, _ => ⟨fun h => ⟨h, fun _ _ _ _ hh => hh⟩, fun h => h.1⟩
  | d :: ds, T, i, i0, i1 => by
    show jn_msx σ ds (fun b => T b ∧ ∀ c, 0 ≤ c → c < σ 103 56 → T c → ¬ jm_wl σ d b c) i ↔ _
    rw [jn_msx_ah hcb i0 i1]
    constructor
    · rintro ⟨⟨h1, h2⟩, h3⟩
      refine ⟨h1, fun j j0 j1 hj hh => ?_⟩
      rcases hh with hh | ⟨hh1, hh2⟩
      · exact h2 j j0 j1 hj hh
      · refine h3 j j0 j1 ⟨hj, fun c c0 c1 hc hw => ?_⟩ hh2
        exact h2 c c0 c1 hc (jn_wl_nt hcb i0 i1 j0 j1 c0 c1 hh1 hw)
    · rintro ⟨h1, h2⟩
      refine ⟨⟨h1, fun c c0 c1 hc hw => h2 c c0 c1 hc (.inl hw)⟩, fun j j0 j1 ⟨hj, hj2⟩ hh => ?_⟩
      exact h2 j j0 j1 hj (.inr ⟨hj2 i i0 i1 h1, hh⟩)
theorem jn_ah_max {σ : jw_H} (hcb : jm_cbd σ) (ds : List Int) : ∀ {m : Nat}, 0 < m → (m : Int) ≤ σ 103 56 → ∃ f : Int, (0 ≤ f ∧ f < m) ∧ ∀ c : Int, 0 ≤ c → c < m → ¬ jn_ah σ ds c f
  | 0, h, _ => by omega
  | 1, _, _ => ⟨0, by omega, fun c c0 c1 => by rw [show c = 0 by omega]; exact jn_ah_ir _ _ _⟩
  | m + 2, _, hm => by
    obtain ⟨f, hf, h⟩ := jn_ah_max hcb ds (m := m + 1) (by omega) (by omega)
    by_cases hc : jn_ah σ ds ((m + 1 : Nat) : Int) f
    · refine ⟨((m + 1 : Nat) : Int), by omega, fun c c0 c1 => ?_⟩
      by_cases ec : c = ((m + 1 : Nat) : Int)
      · rw [ec]
        exact jn_ah_ir _ _ _
      · have h4 := jn_ah_nt hcb (i := ((m + 1 : Nat) : Int)) (j := c) (k := f) (by omega) (by omega) (by omega) hc
        exact jn_ah_as (h4.resolve_right (h c c0 (by omega)))
    · refine ⟨f, by omega, fun c c0 c1 => ?_⟩
      by_cases ec : c = ((m + 1 : Nat) : Int)
      · rw [ec]
        exact hc
      · exact h c c0 (by omega)
/-- a mask tells a set of corners -/
def jn_mt (σ : jw_H) (s : Int) (T : Int → Prop) : Prop := (0 ≤ s ∧ s ≤ 1048575) ∧ ∀ a : Int, 0 ≤ a → a < σ 103 56 → (jb_in s a.toNat ↔ T a)
/-- mostAmong, so far -/
def jn_lf (σ : jw_H) (s w i j l : Int) : Prop := (0 ≤ l ∧ l ≤ 1048575) ∧ ∀ b : Int, 0 ≤ b → b < σ 103 56 → (jb_in l b.toNat ↔ jb_in s b.toNat ∧ ∀ c : Int, 0 ≤ c → c < σ 103 56 → (b < i ∨ (b = i ∧ c < j)) → jb_in s c.toNat → ¬ jm_wl σ w b c)
theorem jn_lf_no {σ : jw_H} {s w i j l : Int} (h : jn_lf σ s w i j l) (hn : ¬ (jb_in s i.toNat ∧ jb_in s j.toNat ∧ jm_wl σ w i j)) : jn_lf σ s w i (j + 1) l := by
  refine ⟨h.1, fun b b0 b1 => (h.2 b b0 b1).trans ⟨fun ⟨h1, h2⟩ => ⟨h1, fun c c0 c1 hc hs => ?_⟩, fun ⟨h1, h2⟩ => ⟨h1, fun c c0 c1 hc hs => h2 c c0 c1 (by omega) hs⟩⟩⟩
  by_cases e : b = i ∧ c = j
  · intro hw
    rw [e.1, e.2] at hw
    rw [e.1] at h1
    rw [e.2] at hs
    exact hn ⟨h1, hs, hw⟩
  · exact h2 c c0 c1 (by omega) hs
theorem jn_lf_yes {σ : jw_H} {s w i j l : Int} (hn20 : σ 103 56 ≤ 20) (h : jn_lf σ s w i j l) (i0 : 0 ≤ i) (i1 : i < σ 103 56) (j0 : 0 ≤ j) (j1 : j < σ 103 56) (h1 : jb_in s i.toNat) (h2 : jb_in s j.toNat) (h3 : jm_wl σ w i j) : jn_lf σ s w i (j + 1) (jw_and l (jw_xor (jw_shl 1 i) (-1))) := by
  obtain ⟨⟨w0, w1⟩, hb⟩ := h
  obtain ⟨o, ob⟩ := jm_one_in i0 (by omega)
  obtain ⟨t, et, tl, tb⟩ := jb_less (a := l) (b := jw_shl 1 i) w0 (by omega) o.1 (by omega)
  refine ⟨by rw [et]; omega, fun b b0 b1 => ?_⟩
  have e1 : jb_in (jw_and l (jw_xor (jw_shl 1 i) (-1))) b.toNat ↔ jb_in l b.toNat ∧ ¬ b = i := by
    unfold jb_in
    rw [et, Int.toNat_natCast, tb, Bool.and_eq_true, Bool.not_eq_true', Bool.eq_false_iff]
    refine and_congr Iff.rfl (not_congr ?_)
    exact (ob b.toNat).trans (by omega)
  rw [e1, hb b b0 b1]
  constructor
  · rintro ⟨⟨g1, g2⟩, g3⟩
    exact ⟨g1, fun c c0 c1 hc hs => g2 c c0 c1 (by omega) hs⟩
  · rintro ⟨g1, g2⟩
    refine ⟨⟨g1, fun c c0 c1 hc hs => g2 c c0 c1 (by omega) hs⟩, fun hh => ?_⟩
    rw [hh] at g2
    exact g2 j j0 j1 (by omega) h2 h3
theorem jn_lf_row {σ : jw_H} {s w i l : Int} (h : jn_lf σ s w i (σ 103 56) l) : jn_lf σ s w (i + 1) 0 l :=
  ⟨h.1, fun b b0 b1 => (h.2 b b0 b1).trans ⟨fun ⟨h1, h2⟩ => ⟨h1, fun c c0 c1 hc hs => h2 c c0 c1 (by omega) hs⟩, fun ⟨h1, h2⟩ => ⟨h1, fun c c0 c1 hc hs => h2 c c0 c1 (by omega) hs⟩⟩⟩
theorem jn_lf_0 {σ : jw_H} {s w : Int} (h : 0 ≤ s ∧ s ≤ 1048575) : jn_lf σ s w 0 0 s :=
  ⟨h, fun b b0 b1 => ⟨fun hs => ⟨hs, fun c c0 c1 hc => by omega⟩, fun hs => hs.1⟩⟩
theorem jn_lf_end {σ : jw_H} {s w l : Int} {T : Int → Prop} (hs : jn_mt σ s T) (h : jn_lf σ s w (σ 103 56) 0 l) : jn_mt σ l (fun b => T b ∧ ∀ c, 0 ≤ c → c < σ 103 56 → T c → ¬ jm_wl σ w b c) := by
  refine ⟨h.1, fun b b0 b1 => (h.2 b b0 b1).trans ?_⟩
  rw [hs.2 b b0 b1]
  constructor
  · rintro ⟨h1, h2⟩
    exact ⟨h1, fun c c0 c1 hc => h2 c c0 c1 (by omega) ((hs.2 c c0 c1).mpr hc)⟩
  · rintro ⟨h1, h2⟩
    exact ⟨h1, fun c c0 c1 hc hs2 => h2 c c0 c1 ((hs.2 c c0 c1).mp hs2)⟩
theorem jm_mam_j {n : Nat} {σ : jw_H} {D : Nat} {Q : Option jw_V → jw_H → Prop} (hD : 2 ≤ D) {C : List (ge_R × Int)} (hKN : jm_KN σ C) {s w : Int} (hs0 : 0 ≤ s ∧ s ≤ 1048575) (w0 : 0 ≤ w) (w1 : w < σ 103 4) {i : Int} (i0 : 0 ≤ i) (i1 : i < σ 103 56) (hQ : ∀ {l : Int}, jn_lf σ s w i (σ 103 56) l → jw_W (js_S n) D md_298 38 [some (.inr (.inr 103)), some (.inl s), some (.inl w), some (.inl l), some (.inl i), some (.inl (σ 103 56))] [] σ Q) : ∀ (f : Nat) {j l : Int}, 0 ≤ j → j + f = σ 103 56 → jn_lf σ s w i j l → jw_W (js_S n) D md_298 10 [some (.inr (.inr 103)), some (.inl s), some (.inl w), some (.inl l), some (.inl i), some (.inl j)] [] σ Q
  | f, j, l, j0, hk, H => by
    have ih : ∀ {l' : Int}, j < σ 103 56 → jn_lf σ s w i (j + 1) l' → jw_W (js_S n) D md_298 10 [some (.inr (.inr 103)), some (.inl s), some (.inl w), some (.inl l'), some (.inl i), some (.inl (j + 1))] [] σ Q := by
      intro l' h1 h2
      match f, hk with
      | 0, hk => omega
      | f + 1, hk => exact jm_mam_j hD hKN hs0 w0 w1 i0 i1 hQ f (by omega) (by omega) h2
    have hcb := (jm_kw_cbd hKN.1).2 σ (jm_fk_rf σ)
    have hcn := hcb.1
    have hPm := hKN.1.1
    have hqq := hPm.1
    have hww := hPm.2.1
    have hkk := hPm.2.2.1
    have hg57 := hKN.2.2.1.1
    have hg58 := hKN.2.2.2.1.1
    have hl0 := H.1
    refine jw_W_n 2 (i' := 12) (ls' := [some (.inr (.inr 103)), some (.inl s), some (.inl w), some (.inl l), some (.inl i), some (.inl j)]) (st' := [.inr (.inr 103), .inl j]) rfl ?_
    refine jw_W_gf rfl rfl rfl ?_
    show jw_W (js_S n) _ md_298 13 [some (.inr (.inr 103)), some (.inl s), some (.inl w), some (.inl l), some (.inl i), some (.inl j)] [.inl (σ 103 56), .inl j] σ _
    refine jw_W_ic rfl (by unfold jw_rg; omega) (by unfold jw_rg; omega) (fun hc1 => ?_) (fun hc1 => ?_)
    · have hc1 : j ≥ (σ 103 56) := hc1
      have hkl : j = σ 103 56 := by omega
      subst hkl
      exact hQ H
    · have hc1 : ¬ (j ≥ (σ 103 56)) := hc1
      refine jw_W_n 2 (i' := 16) (ls' := [some (.inr (.inr 103)), some (.inl s), some (.inl w), some (.inl l), some (.inl i), some (.inl j)]) (st' := [.inl i, .inl s]) rfl ?_
      refine jw_W_call (as := [.inl s, .inl i]) (rest := []) rfl rfl rfl rfl (Nat.le_of_ble_eq_true rfl) (.inl rfl) (jm_has hs0.1 (by omega) (by omega) (by omega)) (by omega) ?_ rfl
      rintro r1 σz (⟨rfl, hs, hgi⟩ | ⟨rfl, hs, hgi⟩)
      · rw [hs]
        show jw_W (js_S n) _ md_298 17 [some (.inr (.inr 103)), some (.inl s), some (.inl w), some (.inl l), some (.inl i), some (.inl j)] [.inl 1] σ _
        refine jw_W_if rfl (by unfold jw_rg; omega) (fun hc2 => ?_) (fun hc2 => ?_)
        · exact absurd hc2 (show ¬ ((1 : Int) = 0) by omega)
        · clear hc2
          refine jw_W_n 2 (i' := 20) (ls' := [some (.inr (.inr 103)), some (.inl s), some (.inl w), some (.inl l), some (.inl i), some (.inl j)]) (st' := [.inl j, .inl s]) rfl ?_
          refine jw_W_call (as := [.inl s, .inl j]) (rest := []) rfl rfl rfl rfl (Nat.le_of_ble_eq_true rfl) (.inl rfl) (jm_has hs0.1 (by omega) (by omega) (by omega)) (by omega) ?_ rfl
          rintro r1 σz (⟨rfl, hs, hgj⟩ | ⟨rfl, hs, hgj⟩)
          · rw [hs]
            show jw_W (js_S n) _ md_298 21 [some (.inr (.inr 103)), some (.inl s), some (.inl w), some (.inl l), some (.inl i), some (.inl j)] [.inl 1] σ _
            refine jw_W_if rfl (by unfold jw_rg; omega) (fun hc3 => ?_) (fun hc3 => ?_)
            · exact absurd hc3 (show ¬ ((1 : Int) = 0) by omega)
            · clear hc3
              refine jw_W_n 4 (i' := 26) (ls' := [some (.inr (.inr 103)), some (.inl s), some (.inl w), some (.inl l), some (.inl i), some (.inl j)]) (st' := [.inl i, .inl j, .inl w, .inr (.inr 103)]) rfl ?_
              refine jw_W_call (as := [.inr (.inr 103), .inl w, .inl j, .inl i]) (rest := []) rfl rfl rfl rfl (Nat.le_of_ble_eq_true rfl) (.inr rfl) (jm_byWish hPm hcb w0 w1 (by omega) (by omega) (by omega) (by omega)) (by omega) ?_ rfl
              rintro r1 σz (⟨rfl, hs, hlt⟩ | ⟨rfl, hs, hlt⟩ | ⟨rfl, hs, hlt⟩)
              · rw [hs]
                show jw_W (js_S n) _ md_298 27 [some (.inr (.inr 103)), some (.inl s), some (.inl w), some (.inl l), some (.inl i), some (.inl j)] [.inl ((-1))] σ _
                refine jw_W_if rfl (by unfold jw_rg; omega) (fun hc4 => ?_) (fun hc4 => ?_)
                · clear hc4
                  refine jw_W_n 2 (i' := 10) (ls' := [some (.inr (.inr 103)), some (.inl s), some (.inl w), some (.inl l), some (.inl i), some (.inl (j + 1))]) (st' := []) rfl ?_
                  exact ih (by omega) (jn_lf_no H (fun hh => by obtain ⟨z1, z2, z3⟩ := hh; first | exact hgi z1 | exact hgj z2 | (unfold jm_wl at z3; omega)))
                · exact absurd hc4 (show ¬ ¬ ((((-1 : Int))) ≤ 0) by omega)
              · rw [hs]
                show jw_W (js_S n) _ md_298 27 [some (.inr (.inr 103)), some (.inl s), some (.inl w), some (.inl l), some (.inl i), some (.inl j)] [.inl 1] σ _
                refine jw_W_if rfl (by unfold jw_rg; omega) (fun hc5 => ?_) (fun hc5 => ?_)
                · exact absurd hc5 (show ¬ ((1 : Int) ≤ 0) by omega)
                · clear hc5
                  refine jw_W_n 10 (i' := 10) (ls' := [some (.inr (.inr 103)), some (.inl s), some (.inl w), some (.inl (jw_and l (jw_xor (jw_shl 1 i) ((-1))))), some (.inl i), some (.inl (j + 1))]) (st' := []) rfl ?_
                  exact ih (by omega) (jn_lf_yes hcn.2 H i0 i1 j0 (by omega) hgi hgj hlt)
              · rw [hs]
                show jw_W (js_S n) _ md_298 27 [some (.inr (.inr 103)), some (.inl s), some (.inl w), some (.inl l), some (.inl i), some (.inl j)] [.inl 0] σ _
                refine jw_W_if rfl (by unfold jw_rg; omega) (fun hc6 => ?_) (fun hc6 => ?_)
                · clear hc6
                  refine jw_W_n 2 (i' := 10) (ls' := [some (.inr (.inr 103)), some (.inl s), some (.inl w), some (.inl l), some (.inl i), some (.inl (j + 1))]) (st' := []) rfl ?_
                  exact ih (by omega) (jn_lf_no H (fun hh => by obtain ⟨z1, z2, z3⟩ := hh; first | exact hgi z1 | exact hgj z2 | (unfold jm_wl at z3; omega)))
                · exact absurd hc6 (show ¬ ¬ ((0 : Int) ≤ 0) by omega)
          · rw [hs]
            show jw_W (js_S n) _ md_298 21 [some (.inr (.inr 103)), some (.inl s), some (.inl w), some (.inl l), some (.inl i), some (.inl j)] [.inl 0] σ _
            refine jw_W_if rfl (by unfold jw_rg; omega) (fun hc7 => ?_) (fun hc7 => ?_)
            · clear hc7
              refine jw_W_n 2 (i' := 10) (ls' := [some (.inr (.inr 103)), some (.inl s), some (.inl w), some (.inl l), some (.inl i), some (.inl (j + 1))]) (st' := []) rfl ?_
              exact ih (by omega) (jn_lf_no H (fun hh => by obtain ⟨z1, z2, z3⟩ := hh; first | exact hgi z1 | exact hgj z2 | (unfold jm_wl at z3; omega)))
            · exact absurd hc7 (show ¬ ¬ ((0 : Int) = 0) by omega)
      · rw [hs]
        show jw_W (js_S n) _ md_298 17 [some (.inr (.inr 103)), some (.inl s), some (.inl w), some (.inl l), some (.inl i), some (.inl j)] [.inl 0] σ _
        refine jw_W_if rfl (by unfold jw_rg; omega) (fun hc8 => ?_) (fun hc8 => ?_)
        · clear hc8
          refine jw_W_n 2 (i' := 10) (ls' := [some (.inr (.inr 103)), some (.inl s), some (.inl w), some (.inl l), some (.inl i), some (.inl (j + 1))]) (st' := []) rfl ?_
          exact ih (by omega) (jn_lf_no H (fun hh => by obtain ⟨z1, z2, z3⟩ := hh; first | exact hgi z1 | exact hgj z2 | (unfold jm_wl at z3; omega)))
        · exact absurd hc8 (show ¬ ¬ ((0 : Int) = 0) by omega)
theorem jm_mam_i {n : Nat} {σ : jw_H} {D : Nat} (hD : 2 ≤ D) {C : List (ge_R × Int)} (hKN : jm_KN σ C) {s w : Int} (hs0 : 0 ≤ s ∧ s ≤ 1048575) (w0 : 0 ≤ w) (w1 : w < σ 103 4) : ∀ (f : Nat) {i l : Int} {v : Option jw_V}, 0 ≤ i → i + f = σ 103 56 → jn_lf σ s w i 0 l → jw_W (js_S n) D md_298 4 [some (.inr (.inr 103)), some (.inl s), some (.inl w), some (.inl l), some (.inl i), v] [] σ (fun r σ' => ∃ l, r = some (.inl l) ∧ σ' = σ ∧ jn_lf σ s w (σ 103 56) 0 l)
  | f, i, l, v, i0, hk, H => by
    have ih : ∀ {l' : Int} {v' : Option jw_V}, i < σ 103 56 → jn_lf σ s w (i + 1) 0 l' → jw_W (js_S n) D md_298 4 [some (.inr (.inr 103)), some (.inl s), some (.inl w), some (.inl l'), some (.inl (i + 1)), v'] [] σ (fun r σ' => ∃ l, r = some (.inl l) ∧ σ' = σ ∧ jn_lf σ s w (σ 103 56) 0 l) := by
      intro l' v' h1 h2
      match f, hk with
      | 0, hk => omega
      | f + 1, hk => exact jm_mam_i hD hKN hs0 w0 w1 f (by omega) (by omega) h2
    have hcb := (jm_kw_cbd hKN.1).2 σ (jm_fk_rf σ)
    have hcn := hcb.1
    have hPm := hKN.1.1
    have hqq := hPm.1
    have hww := hPm.2.1
    have hkk := hPm.2.2.1
    have hg57 := hKN.2.2.1.1
    have hg58 := hKN.2.2.2.1.1
    refine jw_W_n 2 (i' := 6) (ls' := [some (.inr (.inr 103)), some (.inl s), some (.inl w), some (.inl l), some (.inl i), v]) (st' := [.inr (.inr 103), .inl i]) rfl ?_
    refine jw_W_gf rfl rfl rfl ?_
    show jw_W (js_S n) _ md_298 7 [some (.inr (.inr 103)), some (.inl s), some (.inl w), some (.inl l), some (.inl i), v] [.inl (σ 103 56), .inl i] σ _
    refine jw_W_ic rfl (by unfold jw_rg; omega) (by unfold jw_rg; omega) (fun hc1 => ?_) (fun hc1 => ?_)
    · have hc1 : i ≥ (σ 103 56) := hc1
      refine jw_W_n 1 (i' := 41) (ls' := [some (.inr (.inr 103)), some (.inl s), some (.inl w), some (.inl l), some (.inl i), v]) (st' := [.inl l]) rfl ?_
      refine jw_W_ir rfl ?_
      have hkl : i = σ 103 56 := by omega
      subst hkl
      exact ⟨_, rfl, rfl, H⟩
    · have hc1 : ¬ (i ≥ (σ 103 56)) := hc1
      refine jw_W_n 2 (i' := 10) (ls' := [some (.inr (.inr 103)), some (.inl s), some (.inl w), some (.inl l), some (.inl i), some (.inl 0)]) (st' := []) rfl ?_
      refine jm_mam_j hD hKN hs0 w0 w1 i0 (by omega) (fun {l2} H2 => ?_) (σ 103 56).toNat (j := 0) (by omega) (by omega) H
      refine jw_W_n 2 (i' := 4) (ls' := [some (.inr (.inr 103)), some (.inl s), some (.inl w), some (.inl l2), some (.inl (i + 1)), some (.inl (σ 103 56))]) (st' := []) rfl ?_
      exact ih (by omega) (jn_lf_row H2)
theorem jm_mostAmong {n : Nat} {σ : jw_H} {C : List (ge_R × Int)} (hKN : jm_KN σ C) {s w : Int} {T : Int → Prop} (hs : jn_mt σ s T) (w0 : 0 ≤ w) (w1 : w < σ 103 4) : jw_T (js_S n) 3 298 [.inr (.inr 103), .inl s, .inl w] σ (fun r σ' => ∃ l, r = some (.inl l) ∧ σ' = σ ∧ jn_mt σ l (fun b => T b ∧ ∀ c, 0 ≤ c → c < σ 103 56 → T c → ¬ jm_wl σ w b c)) := by
  refine jw_T_of (D := 2) (M := mm_298) rfl (Nat.le_of_ble_eq_true rfl) (ls0 := [some (.inr (.inr 103)), some (.inl s), some (.inl w), none, none, none]) rfl ?_ (by rintro _ _ ⟨_, rfl, -⟩; rfl)
  have hcb := (jm_kw_cbd hKN.1).2 σ (jm_fk_rf σ)
  have hcn := hcb.1
  have hPm := hKN.1.1
  have hqq := hPm.1
  have hww := hPm.2.1
  have hkk := hPm.2.2.1
  have hg57 := hKN.2.2.1.1
  have hg58 := hKN.2.2.2.1.1
  refine jw_W_n 4 (i' := 4) (ls' := [some (.inr (.inr 103)), some (.inl s), some (.inl w), some (.inl s), some (.inl 0), none]) (st' := []) rfl ?_
  refine jw_W_mono (jm_mam_i (D := 2) (by omega) hKN hs.1 w0 w1 (σ 103 56).toNat (i := 0) (by omega) (by omega) (jn_lf_0 hs.1)) ?_
  rintro r σ' ⟨l, rfl, h1, h2⟩
  exact ⟨_, rfl, h1, jn_lf_end hs h2⟩
/-- how many bits, by counting -/
def jn_pop (s : Nat) : Nat → Int
  | 0 => 0
  | k + 1 => jn_pop s k + if s.testBit k then 1 else 0
theorem jn_cn_pop (x : Int) : ∀ m : Nat, jx_cn (fun k => jb_in x k.toNat) m = jn_pop x.toNat m
  | 0 => rfl
  | m + 1 => by
    unfold jx_cn jn_pop
    rw [jn_cn_pop x m]
    by_cases h : x.toNat.testBit m = true
    · rw [if_pos h, jx_b_1 (show jb_in x ((m : Int)).toNat from h)]
    · rw [if_neg h, jx_b_0 (show ¬ jb_in x ((m : Int)).toNat from h)]
theorem jn_pop1 : ∀ a : Fin 1, jn_pop (jw_or 0 (jw_shl 1 (a.val : Int))).toNat 20 = 1 := by decide +kernel
theorem jn_pop2 : ∀ a b : Fin 2, (jn_pop (jw_or (jw_or 0 (jw_shl 1 (a.val : Int))) (jw_shl 1 (b.val : Int))).toNat 20 = 2 ↔ a ≠ b) ∧ jn_pop (jw_or (jw_or 0 (jw_shl 1 (a.val : Int))) (jw_shl 1 (b.val : Int))).toNat 20 ≤ 2 ∧ 0 ≤ jn_pop (jw_or (jw_or 0 (jw_shl 1 (a.val : Int))) (jw_shl 1 (b.val : Int))).toNat 20 := by decide +kernel
theorem jn_pop3 : ∀ a b c : Fin 3, (jn_pop (jw_or (jw_or (jw_or 0 (jw_shl 1 (a.val : Int))) (jw_shl 1 (b.val : Int))) (jw_shl 1 (c.val : Int))).toNat 20 = 3 ↔ (a ≠ b ∧ a ≠ c ∧ b ≠ c)) ∧ jn_pop (jw_or (jw_or (jw_or 0 (jw_shl 1 (a.val : Int))) (jw_shl 1 (b.val : Int))) (jw_shl 1 (c.val : Int))).toNat 20 ≤ 3 ∧ 0 ≤ jn_pop (jw_or (jw_or (jw_or 0 (jw_shl 1 (a.val : Int))) (jw_shl 1 (b.val : Int))) (jw_shl 1 (c.val : Int))).toNat 20 := by decide +kernel
theorem jn_c1 {a : Int} (a0 : 0 ≤ a ∧ a < 1) : jx_cn (fun k => jb_in (jw_or 0 (jw_shl 1 a)) k.toNat) 20 = 1 := by
  obtain ⟨f, rfl⟩ := jn_fin (m := 1) a0.1 a0.2
  rw [jn_cn_pop]
  exact jn_pop1 f
theorem jn_c2 {a b : Int} (a0 : 0 ≤ a ∧ a < 2) (b0 : 0 ≤ b ∧ b < 2) : (jx_cn (fun k => jb_in (jw_or (jw_or 0 (jw_shl 1 a)) (jw_shl 1 b)) k.toNat) 20 = 2 ↔ a ≠ b) ∧ jx_cn (fun k => jb_in (jw_or (jw_or 0 (jw_shl 1 a)) (jw_shl 1 b)) k.toNat) 20 ≤ 2 ∧ 0 ≤ jx_cn (fun k => jb_in (jw_or (jw_or 0 (jw_shl 1 a)) (jw_shl 1 b)) k.toNat) 20 := by
  obtain ⟨f, rfl⟩ := jn_fin (m := 2) a0.1 a0.2
  obtain ⟨g, rfl⟩ := jn_fin (m := 2) b0.1 b0.2
  rw [jn_cn_pop]
  have h := jn_pop2 f g
  refine ⟨h.1.trans ⟨fun h1 hh => h1 (Fin.ext (by omega)), fun h1 hh => h1 (by rw [hh])⟩, h.2⟩
theorem jn_c3 {a b c : Int} (a0 : 0 ≤ a ∧ a < 3) (b0 : 0 ≤ b ∧ b < 3) (c0 : 0 ≤ c ∧ c < 3) : (jx_cn (fun k => jb_in (jw_or (jw_or (jw_or 0 (jw_shl 1 a)) (jw_shl 1 b)) (jw_shl 1 c)) k.toNat) 20 = 3 ↔ (a ≠ b ∧ a ≠ c ∧ b ≠ c)) ∧ jx_cn (fun k => jb_in (jw_or (jw_or (jw_or 0 (jw_shl 1 a)) (jw_shl 1 b)) (jw_shl 1 c)) k.toNat) 20 ≤ 3 ∧ 0 ≤ jx_cn (fun k => jb_in (jw_or (jw_or (jw_or 0 (jw_shl 1 a)) (jw_shl 1 b)) (jw_shl 1 c)) k.toNat) 20 := by
  obtain ⟨f, rfl⟩ := jn_fin (m := 3) a0.1 a0.2
  obtain ⟨g, rfl⟩ := jn_fin (m := 3) b0.1 b0.2
  obtain ⟨h, rfl⟩ := jn_fin (m := 3) c0.1 c0.2
  rw [jn_cn_pop]
  have e := jn_pop3 f g h
  refine ⟨e.1.trans ?_, e.2⟩
  constructor
  · rintro ⟨h1, h2, h3⟩
    exact ⟨fun hh => h1 (Fin.ext (by omega)), fun hh => h2 (Fin.ext (by omega)), fun hh => h3 (Fin.ext (by omega))⟩
  · rintro ⟨h1, h2, h3⟩
    exact ⟨fun hh => h1 (by rw [hh]), fun hh => h2 (by rw [hh]), fun hh => h3 (by rw [hh])⟩
theorem jn_okd {W m r1 d1 r2 d2 r3 d3 : Int} (e1 : m = 10 * r1 + d1) (e2 : r1 = 10 * r2 + d2) (e3 : r2 = 10 * r3 + d3) (s1 : (0 ≤ m ∧ 0 ≤ d1 ∧ d1 ≤ 9 ∧ 0 ≤ r1) ∨ (m < 0 ∧ -9 ≤ d1 ∧ d1 ≤ 0 ∧ r1 ≤ 0)) (s2 : (0 ≤ r1 ∧ 0 ≤ d2 ∧ d2 ≤ 9 ∧ 0 ≤ r2) ∨ (r1 < 0 ∧ -9 ≤ d2 ∧ d2 ≤ 0 ∧ r2 ≤ 0)) (s3 : (0 ≤ r2 ∧ 0 ≤ d3 ∧ d3 ≤ 9 ∧ 0 ≤ r3) ∨ (r2 < 0 ∧ -9 ≤ d3 ∧ d3 ≤ 0 ∧ r3 ≤ 0)) (m0 : 0 ≤ m) : jn_okW W m ↔ (W = 1 ∧ r1 = 0 ∧ (0 ≤ d1 ∧ d1 < 1)) ∨ (W = 2 ∧ r2 = 0 ∧ (0 ≤ d1 ∧ d1 < 2) ∧ (0 ≤ d2 ∧ d2 < 2) ∧ d1 ≠ d2) ∨ (W = 3 ∧ r3 = 0 ∧ (0 ≤ d1 ∧ d1 < 3) ∧ (0 ≤ d2 ∧ d2 < 3) ∧ (0 ≤ d3 ∧ d3 < 3) ∧ d1 ≠ d2 ∧ d1 ≠ d3 ∧ d2 ≠ d3) := by
  unfold jn_okW
  constructor
  · rintro (⟨h, h1⟩ | ⟨h, h1 | h1⟩ | ⟨h, h1 | h1 | h1 | h1 | h1 | h1⟩)
    · exact .inl (by omega)
    · exact .inr (.inl (by omega))
    · exact .inr (.inl (by omega))
    all_goals exact .inr (.inr (by omega))
  · rintro (⟨h, h1⟩ | ⟨h, h1⟩ | ⟨h, h1, h2, h3, h4, h5⟩)
    · exact .inl (by omega)
    · refine .inr (.inl ⟨h, ?_⟩)
      omega
    · refine .inr (.inr ⟨h, ?_⟩)
      rcases (show d1 = 0 ∨ d1 = 1 ∨ d1 = 2 by omega) with z1 | z1 | z1 <;> rcases (show d2 = 0 ∨ d2 = 1 ∨ d2 = 2 by omega) with z2 | z2 | z2 <;> rcases (show d3 = 0 ∨ d3 = 1 ∨ d3 = 2 by omega) with z3 | z3 | z3 <;> omega
theorem jm_isOrder_1 {n : Nat} {σ : jw_H} {C : List (ge_R × Int)} (hKN : jm_KN σ C) (hW4 : σ 103 4 = 1) {m : Int} (hm : jw_rg m) (m0 : 0 ≤ m) : jw_T (js_S n) 2 299 [.inr (.inr 103), .inl m] σ (fun r σ' => (r = some (.inl 1) ∧ σ' = σ ∧ (jn_okW 1 m)) ∨ (r = some (.inl 0) ∧ σ' = σ ∧ ¬ (jn_okW 1 m))) := by
  refine jw_T_of (D := 1) (M := mm_299) rfl (Nat.le_of_ble_eq_true rfl) (ls0 := [some (.inr (.inr 103)), some (.inl m), none, none, none]) rfl ?_ (by rintro _ _ (⟨rfl, -⟩ | ⟨rfl, -⟩) <;> rfl)
  have hcb := (jm_kw_cbd hKN.1).2 σ (jm_fk_rf σ)
  have hcn := hcb.1
  have hPm := hKN.1.1
  have hqq := hPm.1
  have hww := hPm.2.1
  have hkk := hPm.2.2.1
  have hg57 := hKN.2.2.1.1
  have hg58 := hKN.2.2.2.1.1
  obtain ⟨r1, d1, ed1, er1, em1, rg1, sg1⟩ := jn_dm hm
  obtain ⟨r2, d2, ed2, er2, em2, rg2, sg2⟩ := jn_dm rg1
  obtain ⟨r3, d3, ed3, er3, em3, rg3, sg3⟩ := jn_dm rg2
  have rhm := hm
  unfold jw_rg at rhm
  have rrg1 := rg1
  unfold jw_rg at rrg1
  have rrg2 := rg2
  unfold jw_rg at rrg2
  have rrg3 := rg3
  unfold jw_rg at rrg3
  refine jw_W_n 8 (i' := 8) (ls' := [some (.inr (.inr 103)), some (.inl m), some (.inl 0), some (.inl m), some (.inl 0)]) (st' := [.inr (.inr 103), .inl 0]) rfl ?_
  refine jw_W_gf rfl rfl rfl ?_
  show jw_W (js_S n) _ md_299 9 [some (.inr (.inr 103)), some (.inl m), some (.inl 0), some (.inl m), some (.inl 0)] [.inl (σ 103 4), .inl 0] σ _
  rw [hW4]
  refine jw_W_ic rfl (by unfold jw_rg; omega) (by unfold jw_rg; omega) (fun hc1 => ?_) (fun hc1 => ?_)
  · exact absurd hc1 (show ¬ ((0 : Int) ≥ 1) by omega)
  · clear hc1
    refine jw_W_n 2 (i' := 12) (ls' := [some (.inr (.inr 103)), some (.inl m), some (.inl 0), some (.inl m), some (.inl 0)]) (st' := [.inl 10, .inl m]) rfl ?_
    refine jw_W_irem rfl (by unfold jw_rg; omega) (by omega) ?_
    rw [ed1]
    refine jw_W_n 1 (i' := 14) (ls' := [some (.inr (.inr 103)), some (.inl m), some (.inl 0), some (.inl m), some (.inl 0)]) (st' := [.inr (.inr 103), .inl d1]) rfl ?_
    refine jw_W_gf rfl rfl rfl ?_
    show jw_W (js_S n) _ md_299 15 [some (.inr (.inr 103)), some (.inl m), some (.inl 0), some (.inl m), some (.inl 0)] [.inl (σ 103 4), .inl d1] σ _
    rw [hW4]
    refine jw_W_ic rfl (by unfold jw_rg; omega) (by unfold jw_rg; omega) (fun hc2 => ?_) (fun hc2 => ?_)
    · have hc2 : d1 < 1 := hc2
      refine jw_W_n 4 (i' := 22) (ls' := [some (.inr (.inr 103)), some (.inl m), some (.inl 0), some (.inl m), some (.inl 0)]) (st' := [.inl 10, .inl m, .inl 1, .inl 0]) rfl ?_
      refine jw_W_irem rfl (by unfold jw_rg; omega) (by omega) ?_
      rw [ed1]
      refine jw_W_n 2 (i' := 25) (ls' := [some (.inr (.inr 103)), some (.inl m), some (.inl 0), some (.inl m), some (.inl 0)]) (st' := [.inl (jw_or 0 (jw_shl 1 d1))]) rfl ?_
      have hs1 := jn_s1 (a := d1) (by omega)
      have he1 := jn_c1 (a := d1) (by omega)
      refine jw_W_n 3 (i' := 28) (ls' := [some (.inr (.inr 103)), some (.inl m), some (.inl (jw_or 0 (jw_shl 1 d1))), some (.inl m), some (.inl 0)]) (st' := [.inl 10, .inl m]) rfl ?_
      refine jw_W_idiv rfl (by unfold jw_rg; omega) (by omega) ?_
      rw [er1]
      refine jw_W_n 5 (i' := 8) (ls' := [some (.inr (.inr 103)), some (.inl m), some (.inl (jw_or 0 (jw_shl 1 d1))), some (.inl r1), some (.inl 1)]) (st' := [.inr (.inr 103), .inl 1]) rfl ?_
      refine jw_W_gf rfl rfl rfl ?_
      show jw_W (js_S n) _ md_299 9 [some (.inr (.inr 103)), some (.inl m), some (.inl (jw_or 0 (jw_shl 1 d1))), some (.inl r1), some (.inl 1)] [.inl (σ 103 4), .inl 1] σ _
      rw [hW4]
      refine jw_W_ic rfl (by unfold jw_rg; omega) (by unfold jw_rg; omega) (fun hc3 => ?_) (fun hc3 => ?_)
      · clear hc3
        refine jw_W_n 1 (i' := 33) (ls' := [some (.inr (.inr 103)), some (.inl m), some (.inl (jw_or 0 (jw_shl 1 d1))), some (.inl r1), some (.inl 1)]) (st' := [.inl r1]) rfl ?_
        refine jw_W_if rfl (by unfold jw_rg; omega) (fun hc4 => ?_) (fun hc4 => ?_)
        · have hc4 : r1 ≠ 0 := hc4
          refine jw_W_n 1 (i' := 42) (ls' := [some (.inr (.inr 103)), some (.inl m), some (.inl (jw_or 0 (jw_shl 1 d1))), some (.inl r1), some (.inl 1)]) (st' := [.inl 0]) rfl ?_
          refine jw_W_ir rfl ?_
          exact .inr ⟨rfl, rfl, fun hh => by
            rcases (jn_okd em1 em2 em3 sg1 sg2 sg3 m0).mp hh with z | z | z
            · obtain ⟨-, z1, z2⟩ := z
              first | omega | (have := he1; omega)
            · omega
            · omega⟩
        · have hc4 : r1 = 0 := Classical.not_not.mp hc4
          refine jw_W_n 1 (i' := 35) (ls' := [some (.inr (.inr 103)), some (.inl m), some (.inl (jw_or 0 (jw_shl 1 d1))), some (.inl r1), some (.inl 1)]) (st' := [.inl (jw_or 0 (jw_shl 1 d1))]) rfl ?_
          refine jw_W_call (as := [.inl (jw_or 0 (jw_shl 1 d1))]) (rest := []) rfl rfl rfl rfl (Nat.le_of_ble_eq_true rfl) (.inl rfl) (jx_sizeOf (by omega) (by omega)) (by omega) ?_ rfl
          rintro r1 σz ⟨rfl, hs⟩
          rw [hs]
          show jw_W (js_S n) _ md_299 36 [some (.inr (.inr 103)), some (.inl m), some (.inl (jw_or 0 (jw_shl 1 d1))), some (.inl r1), some (.inl 1)] [.inl (jx_cn (fun k => jb_in (jw_or 0 (jw_shl 1 d1)) k.toNat) 20)] σ _
          refine jw_W_n 1 (i' := 37) (ls' := [some (.inr (.inr 103)), some (.inl m), some (.inl (jw_or 0 (jw_shl 1 d1))), some (.inl r1), some (.inl 1)]) (st' := [.inr (.inr 103), .inl (jx_cn (fun k => jb_in (jw_or 0 (jw_shl 1 d1)) k.toNat) 20)]) rfl ?_
          refine jw_W_gf rfl rfl rfl ?_
          show jw_W (js_S n) _ md_299 38 [some (.inr (.inr 103)), some (.inl m), some (.inl (jw_or 0 (jw_shl 1 d1))), some (.inl r1), some (.inl 1)] [.inl (σ 103 4), .inl (jx_cn (fun k => jb_in (jw_or 0 (jw_shl 1 d1)) k.toNat) 20)] σ _
          rw [hW4]
          refine jw_W_ic rfl (by unfold jw_rg; omega) (by unfold jw_rg; omega) (fun hc5 => ?_) (fun hc5 => ?_)
          · have hc5 : (jx_cn (fun k => jb_in (jw_or 0 (jw_shl 1 d1)) k.toNat) 20) ≠ 1 := hc5
            refine jw_W_n 1 (i' := 42) (ls' := [some (.inr (.inr 103)), some (.inl m), some (.inl (jw_or 0 (jw_shl 1 d1))), some (.inl r1), some (.inl 1)]) (st' := [.inl 0]) rfl ?_
            refine jw_W_ir rfl ?_
            exact .inr ⟨rfl, rfl, fun hh => by
              rcases (jn_okd em1 em2 em3 sg1 sg2 sg3 m0).mp hh with z | z | z
              · obtain ⟨-, z1, z2⟩ := z
                first | omega | (have := he1; omega)
              · omega
              · omega⟩
          · have hc5 : (jx_cn (fun k => jb_in (jw_or 0 (jw_shl 1 d1)) k.toNat) 20) = 1 := Classical.not_not.mp hc5
            refine jw_W_n 2 (i' := 42) (ls' := [some (.inr (.inr 103)), some (.inl m), some (.inl (jw_or 0 (jw_shl 1 d1))), some (.inl r1), some (.inl 1)]) (st' := [.inl 1]) rfl ?_
            refine jw_W_ir rfl ?_
            exact .inl ⟨rfl, rfl, (jn_okd em1 em2 em3 sg1 sg2 sg3 m0).mpr (.inl ⟨rfl, by omega, by omega⟩)⟩
      · exact absurd hc3 (show ¬ ¬ ((1 : Int) ≥ 1) by omega)
    · have hc2 : ¬ (d1 < 1) := hc2
      refine jw_W_n 1 (i' := 17) (ls' := [some (.inr (.inr 103)), some (.inl m), some (.inl 0), some (.inl m), some (.inl 0)]) (st' := [.inl 0]) rfl ?_
      refine jw_W_ir rfl ?_
      exact .inr ⟨rfl, rfl, fun hh => by
        rcases (jn_okd em1 em2 em3 sg1 sg2 sg3 m0).mp hh with z | z | z
        · obtain ⟨-, z1, z2⟩ := z
          first | omega | (have := he1; omega)
        · omega
        · omega⟩
theorem jm_isOrder_2 {n : Nat} {σ : jw_H} {C : List (ge_R × Int)} (hKN : jm_KN σ C) (hW4 : σ 103 4 = 2) {m : Int} (hm : jw_rg m) (m0 : 0 ≤ m) : jw_T (js_S n) 2 299 [.inr (.inr 103), .inl m] σ (fun r σ' => (r = some (.inl 1) ∧ σ' = σ ∧ (jn_okW 2 m)) ∨ (r = some (.inl 0) ∧ σ' = σ ∧ ¬ (jn_okW 2 m))) := by
  refine jw_T_of (D := 1) (M := mm_299) rfl (Nat.le_of_ble_eq_true rfl) (ls0 := [some (.inr (.inr 103)), some (.inl m), none, none, none]) rfl ?_ (by rintro _ _ (⟨rfl, -⟩ | ⟨rfl, -⟩) <;> rfl)
  have hcb := (jm_kw_cbd hKN.1).2 σ (jm_fk_rf σ)
  have hcn := hcb.1
  have hPm := hKN.1.1
  have hqq := hPm.1
  have hww := hPm.2.1
  have hkk := hPm.2.2.1
  have hg57 := hKN.2.2.1.1
  have hg58 := hKN.2.2.2.1.1
  obtain ⟨r1, d1, ed1, er1, em1, rg1, sg1⟩ := jn_dm hm
  obtain ⟨r2, d2, ed2, er2, em2, rg2, sg2⟩ := jn_dm rg1
  obtain ⟨r3, d3, ed3, er3, em3, rg3, sg3⟩ := jn_dm rg2
  have rhm := hm
  unfold jw_rg at rhm
  have rrg1 := rg1
  unfold jw_rg at rrg1
  have rrg2 := rg2
  unfold jw_rg at rrg2
  have rrg3 := rg3
  unfold jw_rg at rrg3
  refine jw_W_n 8 (i' := 8) (ls' := [some (.inr (.inr 103)), some (.inl m), some (.inl 0), some (.inl m), some (.inl 0)]) (st' := [.inr (.inr 103), .inl 0]) rfl ?_
  refine jw_W_gf rfl rfl rfl ?_
  show jw_W (js_S n) _ md_299 9 [some (.inr (.inr 103)), some (.inl m), some (.inl 0), some (.inl m), some (.inl 0)] [.inl (σ 103 4), .inl 0] σ _
  rw [hW4]
  refine jw_W_ic rfl (by unfold jw_rg; omega) (by unfold jw_rg; omega) (fun hc1 => ?_) (fun hc1 => ?_)
  · exact absurd hc1 (show ¬ ((0 : Int) ≥ 2) by omega)
  · clear hc1
    refine jw_W_n 2 (i' := 12) (ls' := [some (.inr (.inr 103)), some (.inl m), some (.inl 0), some (.inl m), some (.inl 0)]) (st' := [.inl 10, .inl m]) rfl ?_
    refine jw_W_irem rfl (by unfold jw_rg; omega) (by omega) ?_
    rw [ed1]
    refine jw_W_n 1 (i' := 14) (ls' := [some (.inr (.inr 103)), some (.inl m), some (.inl 0), some (.inl m), some (.inl 0)]) (st' := [.inr (.inr 103), .inl d1]) rfl ?_
    refine jw_W_gf rfl rfl rfl ?_
    show jw_W (js_S n) _ md_299 15 [some (.inr (.inr 103)), some (.inl m), some (.inl 0), some (.inl m), some (.inl 0)] [.inl (σ 103 4), .inl d1] σ _
    rw [hW4]
    refine jw_W_ic rfl (by unfold jw_rg; omega) (by unfold jw_rg; omega) (fun hc2 => ?_) (fun hc2 => ?_)
    · have hc2 : d1 < 2 := hc2
      refine jw_W_n 4 (i' := 22) (ls' := [some (.inr (.inr 103)), some (.inl m), some (.inl 0), some (.inl m), some (.inl 0)]) (st' := [.inl 10, .inl m, .inl 1, .inl 0]) rfl ?_
      refine jw_W_irem rfl (by unfold jw_rg; omega) (by omega) ?_
      rw [ed1]
      refine jw_W_n 2 (i' := 25) (ls' := [some (.inr (.inr 103)), some (.inl m), some (.inl 0), some (.inl m), some (.inl 0)]) (st' := [.inl (jw_or 0 (jw_shl 1 d1))]) rfl ?_
      have hs1 := jn_s1 (a := d1) (by omega)
      refine jw_W_n 3 (i' := 28) (ls' := [some (.inr (.inr 103)), some (.inl m), some (.inl (jw_or 0 (jw_shl 1 d1))), some (.inl m), some (.inl 0)]) (st' := [.inl 10, .inl m]) rfl ?_
      refine jw_W_idiv rfl (by unfold jw_rg; omega) (by omega) ?_
      rw [er1]
      refine jw_W_n 5 (i' := 8) (ls' := [some (.inr (.inr 103)), some (.inl m), some (.inl (jw_or 0 (jw_shl 1 d1))), some (.inl r1), some (.inl 1)]) (st' := [.inr (.inr 103), .inl 1]) rfl ?_
      refine jw_W_gf rfl rfl rfl ?_
      show jw_W (js_S n) _ md_299 9 [some (.inr (.inr 103)), some (.inl m), some (.inl (jw_or 0 (jw_shl 1 d1))), some (.inl r1), some (.inl 1)] [.inl (σ 103 4), .inl 1] σ _
      rw [hW4]
      refine jw_W_ic rfl (by unfold jw_rg; omega) (by unfold jw_rg; omega) (fun hc3 => ?_) (fun hc3 => ?_)
      · exact absurd hc3 (show ¬ ((1 : Int) ≥ 2) by omega)
      · clear hc3
        refine jw_W_n 2 (i' := 12) (ls' := [some (.inr (.inr 103)), some (.inl m), some (.inl (jw_or 0 (jw_shl 1 d1))), some (.inl r1), some (.inl 1)]) (st' := [.inl 10, .inl r1]) rfl ?_
        refine jw_W_irem rfl (by unfold jw_rg; omega) (by omega) ?_
        rw [ed2]
        refine jw_W_n 1 (i' := 14) (ls' := [some (.inr (.inr 103)), some (.inl m), some (.inl (jw_or 0 (jw_shl 1 d1))), some (.inl r1), some (.inl 1)]) (st' := [.inr (.inr 103), .inl d2]) rfl ?_
        refine jw_W_gf rfl rfl rfl ?_
        show jw_W (js_S n) _ md_299 15 [some (.inr (.inr 103)), some (.inl m), some (.inl (jw_or 0 (jw_shl 1 d1))), some (.inl r1), some (.inl 1)] [.inl (σ 103 4), .inl d2] σ _
        rw [hW4]
        refine jw_W_ic rfl (by unfold jw_rg; omega) (by unfold jw_rg; omega) (fun hc4 => ?_) (fun hc4 => ?_)
        · have hc4 : d2 < 2 := hc4
          refine jw_W_n 4 (i' := 22) (ls' := [some (.inr (.inr 103)), some (.inl m), some (.inl (jw_or 0 (jw_shl 1 d1))), some (.inl r1), some (.inl 1)]) (st' := [.inl 10, .inl r1, .inl 1, .inl (jw_or 0 (jw_shl 1 d1))]) rfl ?_
          refine jw_W_irem rfl (by unfold jw_rg; omega) (by omega) ?_
          rw [ed2]
          refine jw_W_n 2 (i' := 25) (ls' := [some (.inr (.inr 103)), some (.inl m), some (.inl (jw_or 0 (jw_shl 1 d1))), some (.inl r1), some (.inl 1)]) (st' := [.inl (jw_or (jw_or 0 (jw_shl 1 d1)) (jw_shl 1 d2))]) rfl ?_
          have hs2 := jn_s2 (a := d1) (b := d2) (by omega) (by omega)
          have he2 := jn_c2 (a := d1) (b := d2) (by omega) (by omega)
          refine jw_W_n 3 (i' := 28) (ls' := [some (.inr (.inr 103)), some (.inl m), some (.inl (jw_or (jw_or 0 (jw_shl 1 d1)) (jw_shl 1 d2))), some (.inl r1), some (.inl 1)]) (st' := [.inl 10, .inl r1]) rfl ?_
          refine jw_W_idiv rfl (by unfold jw_rg; omega) (by omega) ?_
          rw [er2]
          refine jw_W_n 5 (i' := 8) (ls' := [some (.inr (.inr 103)), some (.inl m), some (.inl (jw_or (jw_or 0 (jw_shl 1 d1)) (jw_shl 1 d2))), some (.inl r2), some (.inl 2)]) (st' := [.inr (.inr 103), .inl 2]) rfl ?_
          refine jw_W_gf rfl rfl rfl ?_
          show jw_W (js_S n) _ md_299 9 [some (.inr (.inr 103)), some (.inl m), some (.inl (jw_or (jw_or 0 (jw_shl 1 d1)) (jw_shl 1 d2))), some (.inl r2), some (.inl 2)] [.inl (σ 103 4), .inl 2] σ _
          rw [hW4]
          refine jw_W_ic rfl (by unfold jw_rg; omega) (by unfold jw_rg; omega) (fun hc5 => ?_) (fun hc5 => ?_)
          · clear hc5
            refine jw_W_n 1 (i' := 33) (ls' := [some (.inr (.inr 103)), some (.inl m), some (.inl (jw_or (jw_or 0 (jw_shl 1 d1)) (jw_shl 1 d2))), some (.inl r2), some (.inl 2)]) (st' := [.inl r2]) rfl ?_
            refine jw_W_if rfl (by unfold jw_rg; omega) (fun hc6 => ?_) (fun hc6 => ?_)
            · have hc6 : r2 ≠ 0 := hc6
              refine jw_W_n 1 (i' := 42) (ls' := [some (.inr (.inr 103)), some (.inl m), some (.inl (jw_or (jw_or 0 (jw_shl 1 d1)) (jw_shl 1 d2))), some (.inl r2), some (.inl 2)]) (st' := [.inl 0]) rfl ?_
              refine jw_W_ir rfl ?_
              exact .inr ⟨rfl, rfl, fun hh => by
                rcases (jn_okd em1 em2 em3 sg1 sg2 sg3 m0).mp hh with z | z | z
                · omega
                · obtain ⟨-, z1, z2, z3, z4⟩ := z
                  first | omega | (have := he2.1.mpr z4; omega)
                · omega⟩
            · have hc6 : r2 = 0 := Classical.not_not.mp hc6
              refine jw_W_n 1 (i' := 35) (ls' := [some (.inr (.inr 103)), some (.inl m), some (.inl (jw_or (jw_or 0 (jw_shl 1 d1)) (jw_shl 1 d2))), some (.inl r2), some (.inl 2)]) (st' := [.inl (jw_or (jw_or 0 (jw_shl 1 d1)) (jw_shl 1 d2))]) rfl ?_
              refine jw_W_call (as := [.inl (jw_or (jw_or 0 (jw_shl 1 d1)) (jw_shl 1 d2))]) (rest := []) rfl rfl rfl rfl (Nat.le_of_ble_eq_true rfl) (.inl rfl) (jx_sizeOf (by omega) (by omega)) (by omega) ?_ rfl
              rintro r1 σz ⟨rfl, hs⟩
              rw [hs]
              show jw_W (js_S n) _ md_299 36 [some (.inr (.inr 103)), some (.inl m), some (.inl (jw_or (jw_or 0 (jw_shl 1 d1)) (jw_shl 1 d2))), some (.inl r2), some (.inl 2)] [.inl (jx_cn (fun k => jb_in (jw_or (jw_or 0 (jw_shl 1 d1)) (jw_shl 1 d2)) k.toNat) 20)] σ _
              refine jw_W_n 1 (i' := 37) (ls' := [some (.inr (.inr 103)), some (.inl m), some (.inl (jw_or (jw_or 0 (jw_shl 1 d1)) (jw_shl 1 d2))), some (.inl r2), some (.inl 2)]) (st' := [.inr (.inr 103), .inl (jx_cn (fun k => jb_in (jw_or (jw_or 0 (jw_shl 1 d1)) (jw_shl 1 d2)) k.toNat) 20)]) rfl ?_
              refine jw_W_gf rfl rfl rfl ?_
              show jw_W (js_S n) _ md_299 38 [some (.inr (.inr 103)), some (.inl m), some (.inl (jw_or (jw_or 0 (jw_shl 1 d1)) (jw_shl 1 d2))), some (.inl r2), some (.inl 2)] [.inl (σ 103 4), .inl (jx_cn (fun k => jb_in (jw_or (jw_or 0 (jw_shl 1 d1)) (jw_shl 1 d2)) k.toNat) 20)] σ _
              rw [hW4]
              refine jw_W_ic rfl (by unfold jw_rg; omega) (by unfold jw_rg; omega) (fun hc7 => ?_) (fun hc7 => ?_)
              · have hc7 : (jx_cn (fun k => jb_in (jw_or (jw_or 0 (jw_shl 1 d1)) (jw_shl 1 d2)) k.toNat) 20) ≠ 2 := hc7
                refine jw_W_n 1 (i' := 42) (ls' := [some (.inr (.inr 103)), some (.inl m), some (.inl (jw_or (jw_or 0 (jw_shl 1 d1)) (jw_shl 1 d2))), some (.inl r2), some (.inl 2)]) (st' := [.inl 0]) rfl ?_
                refine jw_W_ir rfl ?_
                exact .inr ⟨rfl, rfl, fun hh => by
                  rcases (jn_okd em1 em2 em3 sg1 sg2 sg3 m0).mp hh with z | z | z
                  · omega
                  · obtain ⟨-, z1, z2, z3, z4⟩ := z
                    first | omega | (have := he2.1.mpr z4; omega)
                  · omega⟩
              · have hc7 : (jx_cn (fun k => jb_in (jw_or (jw_or 0 (jw_shl 1 d1)) (jw_shl 1 d2)) k.toNat) 20) = 2 := Classical.not_not.mp hc7
                refine jw_W_n 2 (i' := 42) (ls' := [some (.inr (.inr 103)), some (.inl m), some (.inl (jw_or (jw_or 0 (jw_shl 1 d1)) (jw_shl 1 d2))), some (.inl r2), some (.inl 2)]) (st' := [.inl 1]) rfl ?_
                refine jw_W_ir rfl ?_
                exact .inl ⟨rfl, rfl, (jn_okd em1 em2 em3 sg1 sg2 sg3 m0).mpr (.inr (.inl ⟨rfl, by omega, by omega, by omega, he2.1.mp (by omega)⟩))⟩
          · exact absurd hc5 (show ¬ ¬ ((2 : Int) ≥ 2) by omega)
        · have hc4 : ¬ (d2 < 2) := hc4
          refine jw_W_n 1 (i' := 17) (ls' := [some (.inr (.inr 103)), some (.inl m), some (.inl (jw_or 0 (jw_shl 1 d1))), some (.inl r1), some (.inl 1)]) (st' := [.inl 0]) rfl ?_
          refine jw_W_ir rfl ?_
          exact .inr ⟨rfl, rfl, fun hh => by
            rcases (jn_okd em1 em2 em3 sg1 sg2 sg3 m0).mp hh with z | z | z
            · omega
            · obtain ⟨-, z1, z2, z3, z4⟩ := z
              first | omega | (have := he2.1.mpr z4; omega)
            · omega⟩
    · have hc2 : ¬ (d1 < 2) := hc2
      refine jw_W_n 1 (i' := 17) (ls' := [some (.inr (.inr 103)), some (.inl m), some (.inl 0), some (.inl m), some (.inl 0)]) (st' := [.inl 0]) rfl ?_
      refine jw_W_ir rfl ?_
      exact .inr ⟨rfl, rfl, fun hh => by
        rcases (jn_okd em1 em2 em3 sg1 sg2 sg3 m0).mp hh with z | z | z
        · omega
        · obtain ⟨-, z1, z2, z3, z4⟩ := z
          first | omega | (have := he2.1.mpr z4; omega)
        · omega⟩
theorem jm_isOrder_3 {n : Nat} {σ : jw_H} {C : List (ge_R × Int)} (hKN : jm_KN σ C) (hW4 : σ 103 4 = 3) {m : Int} (hm : jw_rg m) (m0 : 0 ≤ m) : jw_T (js_S n) 2 299 [.inr (.inr 103), .inl m] σ (fun r σ' => (r = some (.inl 1) ∧ σ' = σ ∧ (jn_okW 3 m)) ∨ (r = some (.inl 0) ∧ σ' = σ ∧ ¬ (jn_okW 3 m))) := by
  refine jw_T_of (D := 1) (M := mm_299) rfl (Nat.le_of_ble_eq_true rfl) (ls0 := [some (.inr (.inr 103)), some (.inl m), none, none, none]) rfl ?_ (by rintro _ _ (⟨rfl, -⟩ | ⟨rfl, -⟩) <;> rfl)
  have hcb := (jm_kw_cbd hKN.1).2 σ (jm_fk_rf σ)
  have hcn := hcb.1
  have hPm := hKN.1.1
  have hqq := hPm.1
  have hww := hPm.2.1
  have hkk := hPm.2.2.1
  have hg57 := hKN.2.2.1.1
  have hg58 := hKN.2.2.2.1.1
  obtain ⟨r1, d1, ed1, er1, em1, rg1, sg1⟩ := jn_dm hm
  obtain ⟨r2, d2, ed2, er2, em2, rg2, sg2⟩ := jn_dm rg1
  obtain ⟨r3, d3, ed3, er3, em3, rg3, sg3⟩ := jn_dm rg2
  have rhm := hm
  unfold jw_rg at rhm
  have rrg1 := rg1
  unfold jw_rg at rrg1
  have rrg2 := rg2
  unfold jw_rg at rrg2
  have rrg3 := rg3
  unfold jw_rg at rrg3
  refine jw_W_n 8 (i' := 8) (ls' := [some (.inr (.inr 103)), some (.inl m), some (.inl 0), some (.inl m), some (.inl 0)]) (st' := [.inr (.inr 103), .inl 0]) rfl ?_
  refine jw_W_gf rfl rfl rfl ?_
  show jw_W (js_S n) _ md_299 9 [some (.inr (.inr 103)), some (.inl m), some (.inl 0), some (.inl m), some (.inl 0)] [.inl (σ 103 4), .inl 0] σ _
  rw [hW4]
  refine jw_W_ic rfl (by unfold jw_rg; omega) (by unfold jw_rg; omega) (fun hc1 => ?_) (fun hc1 => ?_)
  · exact absurd hc1 (show ¬ ((0 : Int) ≥ 3) by omega)
  · clear hc1
    refine jw_W_n 2 (i' := 12) (ls' := [some (.inr (.inr 103)), some (.inl m), some (.inl 0), some (.inl m), some (.inl 0)]) (st' := [.inl 10, .inl m]) rfl ?_
    refine jw_W_irem rfl (by unfold jw_rg; omega) (by omega) ?_
    rw [ed1]
    refine jw_W_n 1 (i' := 14) (ls' := [some (.inr (.inr 103)), some (.inl m), some (.inl 0), some (.inl m), some (.inl 0)]) (st' := [.inr (.inr 103), .inl d1]) rfl ?_
    refine jw_W_gf rfl rfl rfl ?_
    show jw_W (js_S n) _ md_299 15 [some (.inr (.inr 103)), some (.inl m), some (.inl 0), some (.inl m), some (.inl 0)] [.inl (σ 103 4), .inl d1] σ _
    rw [hW4]
    refine jw_W_ic rfl (by unfold jw_rg; omega) (by unfold jw_rg; omega) (fun hc2 => ?_) (fun hc2 => ?_)
    · have hc2 : d1 < 3 := hc2
      refine jw_W_n 4 (i' := 22) (ls' := [some (.inr (.inr 103)), some (.inl m), some (.inl 0), some (.inl m), some (.inl 0)]) (st' := [.inl 10, .inl m, .inl 1, .inl 0]) rfl ?_
      refine jw_W_irem rfl (by unfold jw_rg; omega) (by omega) ?_
      rw [ed1]
      refine jw_W_n 2 (i' := 25) (ls' := [some (.inr (.inr 103)), some (.inl m), some (.inl 0), some (.inl m), some (.inl 0)]) (st' := [.inl (jw_or 0 (jw_shl 1 d1))]) rfl ?_
      have hs1 := jn_s1 (a := d1) (by omega)
      refine jw_W_n 3 (i' := 28) (ls' := [some (.inr (.inr 103)), some (.inl m), some (.inl (jw_or 0 (jw_shl 1 d1))), some (.inl m), some (.inl 0)]) (st' := [.inl 10, .inl m]) rfl ?_
      refine jw_W_idiv rfl (by unfold jw_rg; omega) (by omega) ?_
      rw [er1]
      refine jw_W_n 5 (i' := 8) (ls' := [some (.inr (.inr 103)), some (.inl m), some (.inl (jw_or 0 (jw_shl 1 d1))), some (.inl r1), some (.inl 1)]) (st' := [.inr (.inr 103), .inl 1]) rfl ?_
      refine jw_W_gf rfl rfl rfl ?_
      show jw_W (js_S n) _ md_299 9 [some (.inr (.inr 103)), some (.inl m), some (.inl (jw_or 0 (jw_shl 1 d1))), some (.inl r1), some (.inl 1)] [.inl (σ 103 4), .inl 1] σ _
      rw [hW4]
      refine jw_W_ic rfl (by unfold jw_rg; omega) (by unfold jw_rg; omega) (fun hc3 => ?_) (fun hc3 => ?_)
      · exact absurd hc3 (show ¬ ((1 : Int) ≥ 3) by omega)
      · clear hc3
        refine jw_W_n 2 (i' := 12) (ls' := [some (.inr (.inr 103)), some (.inl m), some (.inl (jw_or 0 (jw_shl 1 d1))), some (.inl r1), some (.inl 1)]) (st' := [.inl 10, .inl r1]) rfl ?_
        refine jw_W_irem rfl (by unfold jw_rg; omega) (by omega) ?_
        rw [ed2]
        refine jw_W_n 1 (i' := 14) (ls' := [some (.inr (.inr 103)), some (.inl m), some (.inl (jw_or 0 (jw_shl 1 d1))), some (.inl r1), some (.inl 1)]) (st' := [.inr (.inr 103), .inl d2]) rfl ?_
        refine jw_W_gf rfl rfl rfl ?_
        show jw_W (js_S n) _ md_299 15 [some (.inr (.inr 103)), some (.inl m), some (.inl (jw_or 0 (jw_shl 1 d1))), some (.inl r1), some (.inl 1)] [.inl (σ 103 4), .inl d2] σ _
        rw [hW4]
        refine jw_W_ic rfl (by unfold jw_rg; omega) (by unfold jw_rg; omega) (fun hc4 => ?_) (fun hc4 => ?_)
        · have hc4 : d2 < 3 := hc4
          refine jw_W_n 4 (i' := 22) (ls' := [some (.inr (.inr 103)), some (.inl m), some (.inl (jw_or 0 (jw_shl 1 d1))), some (.inl r1), some (.inl 1)]) (st' := [.inl 10, .inl r1, .inl 1, .inl (jw_or 0 (jw_shl 1 d1))]) rfl ?_
          refine jw_W_irem rfl (by unfold jw_rg; omega) (by omega) ?_
          rw [ed2]
          refine jw_W_n 2 (i' := 25) (ls' := [some (.inr (.inr 103)), some (.inl m), some (.inl (jw_or 0 (jw_shl 1 d1))), some (.inl r1), some (.inl 1)]) (st' := [.inl (jw_or (jw_or 0 (jw_shl 1 d1)) (jw_shl 1 d2))]) rfl ?_
          have hs2 := jn_s2 (a := d1) (b := d2) (by omega) (by omega)
          refine jw_W_n 3 (i' := 28) (ls' := [some (.inr (.inr 103)), some (.inl m), some (.inl (jw_or (jw_or 0 (jw_shl 1 d1)) (jw_shl 1 d2))), some (.inl r1), some (.inl 1)]) (st' := [.inl 10, .inl r1]) rfl ?_
          refine jw_W_idiv rfl (by unfold jw_rg; omega) (by omega) ?_
          rw [er2]
          refine jw_W_n 5 (i' := 8) (ls' := [some (.inr (.inr 103)), some (.inl m), some (.inl (jw_or (jw_or 0 (jw_shl 1 d1)) (jw_shl 1 d2))), some (.inl r2), some (.inl 2)]) (st' := [.inr (.inr 103), .inl 2]) rfl ?_
          refine jw_W_gf rfl rfl rfl ?_
          show jw_W (js_S n) _ md_299 9 [some (.inr (.inr 103)), some (.inl m), some (.inl (jw_or (jw_or 0 (jw_shl 1 d1)) (jw_shl 1 d2))), some (.inl r2), some (.inl 2)] [.inl (σ 103 4), .inl 2] σ _
          rw [hW4]
          refine jw_W_ic rfl (by unfold jw_rg; omega) (by unfold jw_rg; omega) (fun hc5 => ?_) (fun hc5 => ?_)
          · exact absurd hc5 (show ¬ ((2 : Int) ≥ 3) by omega)
          · clear hc5
            refine jw_W_n 2 (i' := 12) (ls' := [some (.inr (.inr 103)), some (.inl m), some (.inl (jw_or (jw_or 0 (jw_shl 1 d1)) (jw_shl 1 d2))), some (.inl r2), some (.inl 2)]) (st' := [.inl 10, .inl r2]) rfl ?_
            refine jw_W_irem rfl (by unfold jw_rg; omega) (by omega) ?_
            rw [ed3]
            refine jw_W_n 1 (i' := 14) (ls' := [some (.inr (.inr 103)), some (.inl m), some (.inl (jw_or (jw_or 0 (jw_shl 1 d1)) (jw_shl 1 d2))), some (.inl r2), some (.inl 2)]) (st' := [.inr (.inr 103), .inl d3]) rfl ?_
            refine jw_W_gf rfl rfl rfl ?_
            show jw_W (js_S n) _ md_299 15 [some (.inr (.inr 103)), some (.inl m), some (.inl (jw_or (jw_or 0 (jw_shl 1 d1)) (jw_shl 1 d2))), some (.inl r2), some (.inl 2)] [.inl (σ 103 4), .inl d3] σ _
            rw [hW4]
            refine jw_W_ic rfl (by unfold jw_rg; omega) (by unfold jw_rg; omega) (fun hc6 => ?_) (fun hc6 => ?_)
            · have hc6 : d3 < 3 := hc6
              refine jw_W_n 4 (i' := 22) (ls' := [some (.inr (.inr 103)), some (.inl m), some (.inl (jw_or (jw_or 0 (jw_shl 1 d1)) (jw_shl 1 d2))), some (.inl r2), some (.inl 2)]) (st' := [.inl 10, .inl r2, .inl 1, .inl (jw_or (jw_or 0 (jw_shl 1 d1)) (jw_shl 1 d2))]) rfl ?_
              refine jw_W_irem rfl (by unfold jw_rg; omega) (by omega) ?_
              rw [ed3]
              refine jw_W_n 2 (i' := 25) (ls' := [some (.inr (.inr 103)), some (.inl m), some (.inl (jw_or (jw_or 0 (jw_shl 1 d1)) (jw_shl 1 d2))), some (.inl r2), some (.inl 2)]) (st' := [.inl (jw_or (jw_or (jw_or 0 (jw_shl 1 d1)) (jw_shl 1 d2)) (jw_shl 1 d3))]) rfl ?_
              have hs3 := jn_s3 (a := d1) (b := d2) (c := d3) (by omega) (by omega) (by omega)
              have he3 := jn_c3 (a := d1) (b := d2) (c := d3) (by omega) (by omega) (by omega)
              refine jw_W_n 3 (i' := 28) (ls' := [some (.inr (.inr 103)), some (.inl m), some (.inl (jw_or (jw_or (jw_or 0 (jw_shl 1 d1)) (jw_shl 1 d2)) (jw_shl 1 d3))), some (.inl r2), some (.inl 2)]) (st' := [.inl 10, .inl r2]) rfl ?_
              refine jw_W_idiv rfl (by unfold jw_rg; omega) (by omega) ?_
              rw [er3]
              refine jw_W_n 5 (i' := 8) (ls' := [some (.inr (.inr 103)), some (.inl m), some (.inl (jw_or (jw_or (jw_or 0 (jw_shl 1 d1)) (jw_shl 1 d2)) (jw_shl 1 d3))), some (.inl r3), some (.inl 3)]) (st' := [.inr (.inr 103), .inl 3]) rfl ?_
              refine jw_W_gf rfl rfl rfl ?_
              show jw_W (js_S n) _ md_299 9 [some (.inr (.inr 103)), some (.inl m), some (.inl (jw_or (jw_or (jw_or 0 (jw_shl 1 d1)) (jw_shl 1 d2)) (jw_shl 1 d3))), some (.inl r3), some (.inl 3)] [.inl (σ 103 4), .inl 3] σ _
              rw [hW4]
              refine jw_W_ic rfl (by unfold jw_rg; omega) (by unfold jw_rg; omega) (fun hc7 => ?_) (fun hc7 => ?_)
              · clear hc7
                refine jw_W_n 1 (i' := 33) (ls' := [some (.inr (.inr 103)), some (.inl m), some (.inl (jw_or (jw_or (jw_or 0 (jw_shl 1 d1)) (jw_shl 1 d2)) (jw_shl 1 d3))), some (.inl r3), some (.inl 3)]) (st' := [.inl r3]) rfl ?_
                refine jw_W_if rfl (by unfold jw_rg; omega) (fun hc8 => ?_) (fun hc8 => ?_)
                · have hc8 : r3 ≠ 0 := hc8
                  refine jw_W_n 1 (i' := 42) (ls' := [some (.inr (.inr 103)), some (.inl m), some (.inl (jw_or (jw_or (jw_or 0 (jw_shl 1 d1)) (jw_shl 1 d2)) (jw_shl 1 d3))), some (.inl r3), some (.inl 3)]) (st' := [.inl 0]) rfl ?_
                  refine jw_W_ir rfl ?_
                  exact .inr ⟨rfl, rfl, fun hh => by
                    rcases (jn_okd em1 em2 em3 sg1 sg2 sg3 m0).mp hh with z | z | z
                    · omega
                    · omega
                    · obtain ⟨-, z1, z2, z3, z4, z5⟩ := z
                      first | omega | (have := he3.1.mpr z5; omega)⟩
                · have hc8 : r3 = 0 := Classical.not_not.mp hc8
                  refine jw_W_n 1 (i' := 35) (ls' := [some (.inr (.inr 103)), some (.inl m), some (.inl (jw_or (jw_or (jw_or 0 (jw_shl 1 d1)) (jw_shl 1 d2)) (jw_shl 1 d3))), some (.inl r3), some (.inl 3)]) (st' := [.inl (jw_or (jw_or (jw_or 0 (jw_shl 1 d1)) (jw_shl 1 d2)) (jw_shl 1 d3))]) rfl ?_
                  refine jw_W_call (as := [.inl (jw_or (jw_or (jw_or 0 (jw_shl 1 d1)) (jw_shl 1 d2)) (jw_shl 1 d3))]) (rest := []) rfl rfl rfl rfl (Nat.le_of_ble_eq_true rfl) (.inl rfl) (jx_sizeOf (by omega) (by omega)) (by omega) ?_ rfl
                  rintro r1 σz ⟨rfl, hs⟩
                  rw [hs]
                  show jw_W (js_S n) _ md_299 36 [some (.inr (.inr 103)), some (.inl m), some (.inl (jw_or (jw_or (jw_or 0 (jw_shl 1 d1)) (jw_shl 1 d2)) (jw_shl 1 d3))), some (.inl r3), some (.inl 3)] [.inl (jx_cn (fun k => jb_in (jw_or (jw_or (jw_or 0 (jw_shl 1 d1)) (jw_shl 1 d2)) (jw_shl 1 d3)) k.toNat) 20)] σ _
                  refine jw_W_n 1 (i' := 37) (ls' := [some (.inr (.inr 103)), some (.inl m), some (.inl (jw_or (jw_or (jw_or 0 (jw_shl 1 d1)) (jw_shl 1 d2)) (jw_shl 1 d3))), some (.inl r3), some (.inl 3)]) (st' := [.inr (.inr 103), .inl (jx_cn (fun k => jb_in (jw_or (jw_or (jw_or 0 (jw_shl 1 d1)) (jw_shl 1 d2)) (jw_shl 1 d3)) k.toNat) 20)]) rfl ?_
                  refine jw_W_gf rfl rfl rfl ?_
                  show jw_W (js_S n) _ md_299 38 [some (.inr (.inr 103)), some (.inl m), some (.inl (jw_or (jw_or (jw_or 0 (jw_shl 1 d1)) (jw_shl 1 d2)) (jw_shl 1 d3))), some (.inl r3), some (.inl 3)] [.inl (σ 103 4), .inl (jx_cn (fun k => jb_in (jw_or (jw_or (jw_or 0 (jw_shl 1 d1)) (jw_shl 1 d2)) (jw_shl 1 d3)) k.toNat) 20)] σ _
                  rw [hW4]
                  refine jw_W_ic rfl (by unfold jw_rg; omega) (by unfold jw_rg; omega) (fun hc9 => ?_) (fun hc9 => ?_)
                  · have hc9 : (jx_cn (fun k => jb_in (jw_or (jw_or (jw_or 0 (jw_shl 1 d1)) (jw_shl 1 d2)) (jw_shl 1 d3)) k.toNat) 20) ≠ 3 := hc9
                    refine jw_W_n 1 (i' := 42) (ls' := [some (.inr (.inr 103)), some (.inl m), some (.inl (jw_or (jw_or (jw_or 0 (jw_shl 1 d1)) (jw_shl 1 d2)) (jw_shl 1 d3))), some (.inl r3), some (.inl 3)]) (st' := [.inl 0]) rfl ?_
                    refine jw_W_ir rfl ?_
                    exact .inr ⟨rfl, rfl, fun hh => by
                      rcases (jn_okd em1 em2 em3 sg1 sg2 sg3 m0).mp hh with z | z | z
                      · omega
                      · omega
                      · obtain ⟨-, z1, z2, z3, z4, z5⟩ := z
                        first | omega | (have := he3.1.mpr z5; omega)⟩
                  · have hc9 : (jx_cn (fun k => jb_in (jw_or (jw_or (jw_or 0 (jw_shl 1 d1)) (jw_shl 1 d2)) (jw_shl 1 d3)) k.toNat) 20) = 3 := Classical.not_not.mp hc9
                    refine jw_W_n 2 (i' := 42) (ls' := [some (.inr (.inr 103)), some (.inl m), some (.inl (jw_or (jw_or (jw_or 0 (jw_shl 1 d1)) (jw_shl 1 d2)) (jw_shl 1 d3))), some (.inl r3), some (.inl 3)]) (st' := [.inl 1]) rfl ?_
                    refine jw_W_ir rfl ?_
                    exact .inl ⟨rfl, rfl, (jn_okd em1 em2 em3 sg1 sg2 sg3 m0).mpr (.inr (.inr ⟨rfl, by omega, by omega, by omega, by omega, he3.1.mp (by omega)⟩))⟩
              · exact absurd hc7 (show ¬ ¬ ((3 : Int) ≥ 3) by omega)
            · have hc6 : ¬ (d3 < 3) := hc6
              refine jw_W_n 1 (i' := 17) (ls' := [some (.inr (.inr 103)), some (.inl m), some (.inl (jw_or (jw_or 0 (jw_shl 1 d1)) (jw_shl 1 d2))), some (.inl r2), some (.inl 2)]) (st' := [.inl 0]) rfl ?_
              refine jw_W_ir rfl ?_
              exact .inr ⟨rfl, rfl, fun hh => by
                rcases (jn_okd em1 em2 em3 sg1 sg2 sg3 m0).mp hh with z | z | z
                · omega
                · omega
                · obtain ⟨-, z1, z2, z3, z4, z5⟩ := z
                  first | omega | (have := he3.1.mpr z5; omega)⟩
        · have hc4 : ¬ (d2 < 3) := hc4
          refine jw_W_n 1 (i' := 17) (ls' := [some (.inr (.inr 103)), some (.inl m), some (.inl (jw_or 0 (jw_shl 1 d1))), some (.inl r1), some (.inl 1)]) (st' := [.inl 0]) rfl ?_
          refine jw_W_ir rfl ?_
          exact .inr ⟨rfl, rfl, fun hh => by
            rcases (jn_okd em1 em2 em3 sg1 sg2 sg3 m0).mp hh with z | z | z
            · omega
            · omega
            · obtain ⟨-, z1, z2, z3, z4, z5⟩ := z
              first | omega | (have := he3.1.mpr z5; omega)⟩
    · have hc2 : ¬ (d1 < 3) := hc2
      refine jw_W_n 1 (i' := 17) (ls' := [some (.inr (.inr 103)), some (.inl m), some (.inl 0), some (.inl m), some (.inl 0)]) (st' := [.inl 0]) rfl ?_
      refine jw_W_ir rfl ?_
      exact .inr ⟨rfl, rfl, fun hh => by
        rcases (jn_okd em1 em2 em3 sg1 sg2 sg3 m0).mp hh with z | z | z
        · omega
        · omega
        · obtain ⟨-, z1, z2, z3, z4, z5⟩ := z
          first | omega | (have := he3.1.mpr z5; omega)⟩
theorem jm_bh_loop {n : Nat} {σ : jw_H} {D : Nat} (hD : 1 ≤ D) {C : List (ge_R × Int)} (hKN : jm_KN σ C) {m s : Int} {T : Int → Prop} (hs0 : jn_mt σ s T) {u : Int} : ∀ (f : Nat) {i : Int}, 0 ≤ i → i + f = σ 103 56 → (∀ c, 0 ≤ c → c < i → ¬ T c) → jw_W (js_S n) D md_300 58 [some (.inr (.inr 103)), some (.inl m), some (.inl s), some (.inl u), some (.inl i)] [] σ (fun r σ' => ∃ v, r = some (.inl v) ∧ σ' = σ ∧ (v = -2 ∧ (∀ c, 0 ≤ c → c < σ 103 56 → ¬ T c) ∨ (0 ≤ v ∧ v < σ 103 56) ∧ T v ∧ ∀ c, 0 ≤ c → c < v → ¬ T c))
  | f, i, i0, hk, H => by
    have ih : i < σ 103 56 → (∀ c, 0 ≤ c → c < i + 1 → ¬ T c) → jw_W (js_S n) D md_300 58 [some (.inr (.inr 103)), some (.inl m), some (.inl s), some (.inl u), some (.inl (i + 1))] [] σ (fun r σ' => ∃ v, r = some (.inl v) ∧ σ' = σ ∧ (v = -2 ∧ (∀ c, 0 ≤ c → c < σ 103 56 → ¬ T c) ∨ (0 ≤ v ∧ v < σ 103 56) ∧ T v ∧ ∀ c, 0 ≤ c → c < v → ¬ T c)) := by
      intro h1 h2
      match f, hk with
      | 0, hk => omega
      | f + 1, hk => exact jm_bh_loop hD hKN hs0 f (by omega) (by omega) h2
    have hs1 := hs0.1
    have hcb := (jm_kw_cbd hKN.1).2 σ (jm_fk_rf σ)
    have hcn := hcb.1
    have hPm := hKN.1.1
    have hqq := hPm.1
    have hww := hPm.2.1
    have hkk := hPm.2.2.1
    have hg57 := hKN.2.2.1.1
    have hg58 := hKN.2.2.2.1.1
    refine jw_W_n 2 (i' := 60) (ls' := [some (.inr (.inr 103)), some (.inl m), some (.inl s), some (.inl u), some (.inl i)]) (st' := [.inr (.inr 103), .inl i]) rfl ?_
    refine jw_W_gf rfl rfl rfl ?_
    show jw_W (js_S n) _ md_300 61 [some (.inr (.inr 103)), some (.inl m), some (.inl s), some (.inl u), some (.inl i)] [.inl (σ 103 56), .inl i] σ _
    refine jw_W_ic rfl (by unfold jw_rg; omega) (by unfold jw_rg; omega) (fun hc1 => ?_) (fun hc1 => ?_)
    · have hc1 : i ≥ (σ 103 56) := hc1
      refine jw_W_n 2 (i' := 73) (ls' := [some (.inr (.inr 103)), some (.inl m), some (.inl s), some (.inl u), some (.inl i)]) (st' := [.inr (.inr 103), .inl i]) rfl ?_
      refine jw_W_gf rfl rfl rfl ?_
      show jw_W (js_S n) _ md_300 74 [some (.inr (.inr 103)), some (.inl m), some (.inl s), some (.inl u), some (.inl i)] [.inl (σ 103 56), .inl i] σ _
      refine jw_W_ic rfl (by unfold jw_rg; omega) (by unfold jw_rg; omega) (fun hc2 => ?_) (fun hc2 => ?_)
      · have hc2 : i ≠ (σ 103 56) := hc2
        refine jw_W_n 1 (i' := 78) (ls' := [some (.inr (.inr 103)), some (.inl m), some (.inl s), some (.inl u), some (.inl i)]) (st' := [.inl i]) rfl ?_
        refine jw_W_ir rfl ?_
        first
          | omega
          | exact ⟨_, rfl, rfl, .inr ⟨by omega, hT, H⟩⟩
      · have hc2 : i = (σ 103 56) := Classical.not_not.mp hc2
        refine jw_W_n 2 (i' := 78) (ls' := [some (.inr (.inr 103)), some (.inl m), some (.inl s), some (.inl u), some (.inl i)]) (st' := [.inl ((-2))]) rfl ?_
        refine jw_W_ir rfl ?_
        have hkl : i = σ 103 56 := by omega
        subst hkl
        exact ⟨_, rfl, rfl, .inl ⟨rfl, H⟩⟩
    · have hc1 : ¬ (i ≥ (σ 103 56)) := hc1
      refine jw_W_n 2 (i' := 64) (ls' := [some (.inr (.inr 103)), some (.inl m), some (.inl s), some (.inl u), some (.inl i)]) (st' := [.inl i, .inl s]) rfl ?_
      refine jw_W_call (as := [.inl s, .inl i]) (rest := []) rfl rfl rfl rfl (Nat.le_of_ble_eq_true rfl) (.inl rfl) (jm_has hs0.1.1 (by omega) (by omega) (by omega)) (by omega) ?_ rfl
      rintro r1 σz (⟨rfl, hs, hg⟩ | ⟨rfl, hs, hg⟩)
      · rw [hs]
        have hT := (hs0.2 i (by omega) (by omega)).mp hg
        show jw_W (js_S n) _ md_300 65 [some (.inr (.inr 103)), some (.inl m), some (.inl s), some (.inl u), some (.inl i)] [.inl 1] σ _
        refine jw_W_if rfl (by unfold jw_rg; omega) (fun hc3 => ?_) (fun hc3 => ?_)
        · clear hc3
          refine jw_W_n 2 (i' := 73) (ls' := [some (.inr (.inr 103)), some (.inl m), some (.inl s), some (.inl u), some (.inl i)]) (st' := [.inr (.inr 103), .inl i]) rfl ?_
          refine jw_W_gf rfl rfl rfl ?_
          show jw_W (js_S n) _ md_300 74 [some (.inr (.inr 103)), some (.inl m), some (.inl s), some (.inl u), some (.inl i)] [.inl (σ 103 56), .inl i] σ _
          refine jw_W_ic rfl (by unfold jw_rg; omega) (by unfold jw_rg; omega) (fun hc4 => ?_) (fun hc4 => ?_)
          · have hc4 : i ≠ (σ 103 56) := hc4
            refine jw_W_n 1 (i' := 78) (ls' := [some (.inr (.inr 103)), some (.inl m), some (.inl s), some (.inl u), some (.inl i)]) (st' := [.inl i]) rfl ?_
            refine jw_W_ir rfl ?_
            first
              | omega
              | exact ⟨_, rfl, rfl, .inr ⟨by omega, hT, H⟩⟩
          · have hc4 : i = (σ 103 56) := Classical.not_not.mp hc4
            refine jw_W_n 2 (i' := 78) (ls' := [some (.inr (.inr 103)), some (.inl m), some (.inl s), some (.inl u), some (.inl i)]) (st' := [.inl ((-2))]) rfl ?_
            refine jw_W_ir rfl ?_
            have hkl : i = σ 103 56 := by omega
            subst hkl
            exact ⟨_, rfl, rfl, .inl ⟨rfl, H⟩⟩
        · exact absurd hc3 (show ¬ ¬ ((1 : Int) ≠ 0) by omega)
      · rw [hs]
        have hT : ¬ T i := fun hh => hg ((hs0.2 i (by omega) (by omega)).mpr hh)
        show jw_W (js_S n) _ md_300 65 [some (.inr (.inr 103)), some (.inl m), some (.inl s), some (.inl u), some (.inl i)] [.inl 0] σ _
        refine jw_W_if rfl (by unfold jw_rg; omega) (fun hc5 => ?_) (fun hc5 => ?_)
        · exact absurd hc5 (show ¬ ((0 : Int) ≠ 0) by omega)
        · clear hc5
          refine jw_W_n 5 (i' := 58) (ls' := [some (.inr (.inr 103)), some (.inl m), some (.inl s), some (.inl u), some (.inl (i + 1))]) (st' := []) rfl ?_
          refine ih (by omega) (fun c c0 c1 => ?_)
          by_cases ec : c = i
          · rw [ec]
            exact hT
          · exact H c c0 (by omega)
theorem jn_full {σ : jw_H} (hcb : jm_cbd σ) : jn_mt σ (jw_lshl 1 (σ 103 56) - 1) (fun a => 0 ≤ a ∧ a < σ 103 56) := by
  have bm := hcb.1
  have e := jm_lshl1 ⟨(σ 103 56).toNat, by omega⟩
  simp only [Int.toNat_of_nonneg bm.1] at e
  rw [e]
  have h20 : (2 : Nat) ^ (σ 103 56).toNat ≤ 2 ^ 20 := Nat.pow_le_pow_right (by decide) (by omega)
  rw [show (2 : Nat) ^ 20 = 1048576 by decide] at h20
  have hp := Nat.two_pow_pos (σ 103 56).toNat
  have en : (((2 : Nat) ^ (σ 103 56).toNat : Nat) : Int) - 1 = (((2 : Nat) ^ (σ 103 56).toNat - 1 : Nat) : Int) := by omega
  rw [en]
  refine ⟨by omega, fun a a0 _ => ?_⟩
  unfold jb_in
  rw [Int.toNat_natCast, Nat.testBit_two_pow_sub_one, decide_eq_true_eq]
  omega
theorem jm_max {n : Nat} {σ : jw_H} {a b : Int} (ha : jw_rg a) (hb : jw_rg b) : jw_T (js_S n) 1 178 [.inl a, .inl b] σ (fun r σ' => r = some (.inl (if b < a then a else b)) ∧ σ' = σ) := by
  refine jw_T_of (D := 0) (M := mm_178) rfl (Nat.le_of_ble_eq_true rfl) (ls0 := [some (.inl a), some (.inl b)]) rfl ?_ (by rintro _ _ ⟨rfl, -⟩; rfl)
  unfold jw_rg at ha hb
  refine jw_W_n 2 (i' := 2) (ls' := [some (.inl a), some (.inl b)]) (st' := [.inl b, .inl a]) rfl ?_
  refine jw_W_ic rfl (by unfold jw_rg; omega) (by unfold jw_rg; omega) (fun hc1 => ?_) (fun hc1 => ?_)
  · have hc1 : a ≤ b := hc1
    refine jw_W_n 1 (i' := 6) (ls' := [some (.inl a), some (.inl b)]) (st' := [.inl b]) rfl ?_
    refine jw_W_ir rfl ?_
    exact ⟨by rw [if_neg (by omega)], rfl⟩
  · have hc1 : ¬ (a ≤ b) := hc1
    refine jw_W_n 2 (i' := 6) (ls' := [some (.inl a), some (.inl b)]) (st' := [.inl a]) rfl ?_
    refine jw_W_ir rfl ?_
    exact ⟨by rw [if_pos (by omega)], rfl⟩
theorem jm_behind_1 {n : Nat} {σ : jw_H} {C : List (ge_R × Int)} (hKN : jm_KN σ C) (hW4 : σ 103 4 = 1) {m : Int} (hm : jw_rg m) : jw_T (js_S n) 7 300 [.inr (.inr 103), .inl m] σ (fun r σ' => ∃ v, r = some (.inl v) ∧ σ' = σ ∧ ((v = -1 ∧ ¬ jn_okW 1 m) ∨ (jn_okW 1 m ∧ ((v = -2 ∧ σ 103 56 = 0) ∨ ((0 ≤ v ∧ v < σ 103 56) ∧ (∀ j, 0 ≤ j → j < σ 103 56 → ¬ jn_ah σ [m % 10] j v) ∧ ∀ i, 0 ≤ i → i < v → ∃ j, 0 ≤ j ∧ j < σ 103 56 ∧ jn_ah σ [m % 10] j i))))) := by
  refine jw_T_of (D := 6) (M := mm_300) rfl (Nat.le_of_ble_eq_true rfl) (ls0 := [some (.inr (.inr 103)), some (.inl m), none, none, none]) rfl ?_ (by rintro _ _ ⟨_, rfl, -⟩; rfl)
  have hcb := (jm_kw_cbd hKN.1).2 σ (jm_fk_rf σ)
  have hcn := hcb.1
  have hPm := hKN.1.1
  have hqq := hPm.1
  have hww := hPm.2.1
  have hkk := hPm.2.2.1
  have hg57 := hKN.2.2.1.1
  have hg58 := hKN.2.2.2.1.1
  have rhm := hm
  unfold jw_rg at rhm
  refine jw_W_n 1 (i' := 1) (ls' := [some (.inr (.inr 103)), some (.inl m), none, none, none]) (st' := [.inl m]) rfl ?_
  refine jw_W_if rfl (by unfold jw_rg; omega) (fun hc1 => ?_) (fun hc1 => ?_)
  · have hc1 : m < 0 := hc1
    refine jw_W_n 1 (i' := 10) (ls' := [some (.inr (.inr 103)), some (.inl m), none, none, none]) (st' := [.inl ((-1))]) rfl ?_
    refine jw_W_ir rfl ?_
    exact ⟨_, rfl, rfl, .inl ⟨rfl, fun hh => by first | exact hok hh | (unfold jn_okW at hh; omega)⟩⟩
  · have hc1 : ¬ (m < 0) := hc1
    refine jw_W_n 1 (i' := 3) (ls' := [some (.inr (.inr 103)), some (.inl m), none, none, none]) (st' := [.inr (.inr 103)]) rfl ?_
    refine jw_W_gf rfl rfl rfl ?_
    show jw_W (js_S n) _ md_300 4 [some (.inr (.inr 103)), some (.inl m), none, none, none] [.inl (σ 103 4)] σ _
    rw [hW4]
    refine jw_W_if rfl (by unfold jw_rg; omega) (fun hc2 => ?_) (fun hc2 => ?_)
    · exact absurd hc2 (show ¬ ((1 : Int) = 0) by omega)
    · clear hc2
      refine jw_W_n 2 (i' := 7) (ls' := [some (.inr (.inr 103)), some (.inl m), none, none, none]) (st' := [.inl m, .inr (.inr 103)]) rfl ?_
      refine jw_W_call (as := [.inr (.inr 103), .inl m]) (rest := []) rfl rfl rfl rfl (Nat.le_of_ble_eq_true rfl) (.inr rfl) (jm_isOrder_1 hKN hW4 hm (by omega)) (by omega) ?_ rfl
      rintro r1 σz (⟨rfl, hs, hok⟩ | ⟨rfl, hs, hok⟩)
      · rw [hs]
        have hdg := (jn_dig hok).1 rfl
        show jw_W (js_S n) _ md_300 8 [some (.inr (.inr 103)), some (.inl m), none, none, none] [.inl 1] σ _
        refine jw_W_if rfl (by unfold jw_rg; omega) (fun hc3 => ?_) (fun hc3 => ?_)
        · clear hc3
          refine jw_W_n 2 (i' := 13) (ls' := [some (.inr (.inr 103)), some (.inl m), none, none, none]) (st' := [.inr (.inr 103), .inr (.inl 1)]) rfl ?_
          refine jw_W_gf rfl rfl rfl ?_
          show jw_W (js_S n) _ md_300 14 [some (.inr (.inr 103)), some (.inl m), none, none, none] [.inl (σ 103 56), .inr (.inl 1)] σ _
          refine jw_W_n 4 (i' := 18) (ls' := [some (.inr (.inr 103)), some (.inl m), none, none, none]) (st' := [.inl ((jw_lshl 1 (σ 103 56)) - 1)]) rfl ?_
          have hfull := jn_full hcb
          have hf0 := hfull.1
          refine jw_W_n 2 (i' := 20) (ls' := [some (.inr (.inr 103)), some (.inl m), some (.inl ((jw_lshl 1 (σ 103 56)) - 1)), none, none]) (st' := [.inr (.inr 103)]) rfl ?_
          refine jw_W_gf rfl rfl rfl ?_
          show jw_W (js_S n) _ md_300 21 [some (.inr (.inr 103)), some (.inl m), some (.inl ((jw_lshl 1 (σ 103 56)) - 1)), none, none] [.inl (σ 103 4)] σ _
          rw [hW4]
          refine jw_W_n 1 (i' := 22) (ls' := [some (.inr (.inr 103)), some (.inl m), some (.inl ((jw_lshl 1 (σ 103 56)) - 1)), none, none]) (st' := [.inl 3, .inl 1]) rfl ?_
          refine jw_W_ic rfl (by unfold jw_rg; omega) (by unfold jw_rg; omega) (fun hc4 => ?_) (fun hc4 => ?_)
          · clear hc4
            refine jw_W_n 1 (i' := 26) (ls' := [some (.inr (.inr 103)), some (.inl m), some (.inl ((jw_lshl 1 (σ 103 56)) - 1)), none, none]) (st' := [.inr (.inr 103)]) rfl ?_
            refine jw_W_gf rfl rfl rfl ?_
            show jw_W (js_S n) _ md_300 27 [some (.inr (.inr 103)), some (.inl m), some (.inl ((jw_lshl 1 (σ 103 56)) - 1)), none, none] [.inl (σ 103 4)] σ _
            rw [hW4]
            refine jw_W_n 1 (i' := 28) (ls' := [some (.inr (.inr 103)), some (.inl m), some (.inl ((jw_lshl 1 (σ 103 56)) - 1)), none, none]) (st' := [.inl 2, .inl 1]) rfl ?_
            refine jw_W_ic rfl (by unfold jw_rg; omega) (by unfold jw_rg; omega) (fun hc5 => ?_) (fun hc5 => ?_)
            · clear hc5
              refine jw_W_n 6 (i' := 37) (ls' := [some (.inr (.inr 103)), some (.inl m), some (.inl ((jw_lshl 1 (σ 103 56)) - 1)), some (.inl 1), some (.inl 0)]) (st' := [.inr (.inr 103), .inl 0]) rfl ?_
              refine jw_W_gf rfl rfl rfl ?_
              show jw_W (js_S n) _ md_300 38 [some (.inr (.inr 103)), some (.inl m), some (.inl ((jw_lshl 1 (σ 103 56)) - 1)), some (.inl 1), some (.inl 0)] [.inl (σ 103 4), .inl 0] σ _
              rw [hW4]
              refine jw_W_ic rfl (by unfold jw_rg; omega) (by unfold jw_rg; omega) (fun hc6 => ?_) (fun hc6 => ?_)
              · exact absurd hc6 (show ¬ ((0 : Int) ≥ 1) by omega)
              · clear hc6
                refine jw_W_n 4 (i' := 43) (ls' := [some (.inr (.inr 103)), some (.inl m), some (.inl ((jw_lshl 1 (σ 103 56)) - 1)), some (.inl 1), some (.inl 0)]) (st' := [.inl 1, .inl m, .inl ((jw_lshl 1 (σ 103 56)) - 1), .inr (.inr 103)]) rfl ?_
                refine jw_W_idiv rfl (by unfold jw_rg; omega) (by omega) ?_
                rw [show jw_div m 1 = m from by rw [jn_dv (by omega) (by omega) (by omega) (by omega)]; omega]
                refine jw_W_n 1 (i' := 45) (ls' := [some (.inr (.inr 103)), some (.inl m), some (.inl ((jw_lshl 1 (σ 103 56)) - 1)), some (.inl 1), some (.inl 0)]) (st' := [.inl 10, .inl m, .inl ((jw_lshl 1 (σ 103 56)) - 1), .inr (.inr 103)]) rfl ?_
                refine jw_W_irem rfl (by unfold jw_rg; omega) (by omega) ?_
                rw [jm_rem (by omega) (by omega) (by omega) (by omega)]
                refine jw_W_call (as := [.inr (.inr 103), .inl ((jw_lshl 1 (σ 103 56)) - 1), .inl (m % 10)]) (rest := []) rfl rfl rfl rfl (Nat.le_of_ble_eq_true rfl) (.inr rfl) (jm_mostAmong hKN hfull (by omega) (by omega)) (by omega) ?_ rfl
                rintro r1 σz ⟨l0, rfl, hs, hms0⟩
                rw [hs]
                have hml0 := hms0.1
                show jw_W (js_S n) _ md_300 47 [some (.inr (.inr 103)), some (.inl m), some (.inl ((jw_lshl 1 (σ 103 56)) - 1)), some (.inl 1), some (.inl 0)] [.inl l0] σ _
                refine jw_W_n 4 (i' := 51) (ls' := [some (.inr (.inr 103)), some (.inl m), some (.inl l0), some (.inl 1), some (.inl 0)]) (st' := [.inl 10, .inl 1, .inl 1]) rfl ?_
                refine jw_W_idiv rfl (by unfold jw_rg; omega) (by omega) ?_
                rw [show jw_div 1 10 = 0 from by decide +kernel]
                refine jw_W_call (as := [.inl 1, .inl 0]) (rest := []) rfl rfl rfl rfl (Nat.le_of_ble_eq_true rfl) (.inl rfl) (jm_max (by unfold jw_rg; omega) (by unfold jw_rg; omega)) (by omega) ?_ rfl
                rintro r1 σz ⟨rfl, hs⟩
                rw [hs, show (if (0 : Int) < 1 then (1 : Int) else 0) = 1 from by decide]
                show jw_W (js_S n) _ md_300 53 [some (.inr (.inr 103)), some (.inl m), some (.inl l0), some (.inl 1), some (.inl 0)] [.inl 1] σ _
                refine jw_W_n 5 (i' := 37) (ls' := [some (.inr (.inr 103)), some (.inl m), some (.inl l0), some (.inl 1), some (.inl 1)]) (st' := [.inr (.inr 103), .inl 1]) rfl ?_
                refine jw_W_gf rfl rfl rfl ?_
                show jw_W (js_S n) _ md_300 38 [some (.inr (.inr 103)), some (.inl m), some (.inl l0), some (.inl 1), some (.inl 1)] [.inl (σ 103 4), .inl 1] σ _
                rw [hW4]
                refine jw_W_ic rfl (by unfold jw_rg; omega) (by unfold jw_rg; omega) (fun hc7 => ?_) (fun hc7 => ?_)
                · clear hc7
                  refine jw_W_n 2 (i' := 58) (ls' := [some (.inr (.inr 103)), some (.inl m), some (.inl l0), some (.inl 1), some (.inl 0)]) (st' := []) rfl ?_
                  have hmsx := fun (a : Int) (a0 : 0 ≤ a) (a1 : a < σ 103 56) => jn_msx_ah hcb (ds := [m % 10]) (T := fun a => 0 ≤ a ∧ a < σ 103 56) a0 a1
                  refine jw_W_mono (jm_bh_loop (D := 6) (by omega) hKN hms0 (σ 103 56).toNat (i := 0) (by omega) (by omega) (fun c c0 c1 => by omega)) ?_
                  rintro r σ' ⟨v, rfl, hs, hv⟩
                  rw [hs]
                  refine ⟨_, rfl, rfl, .inr ⟨hok, ?_⟩⟩
                  rcases hv with ⟨h1, h2⟩ | ⟨h1, h2, h3⟩
                  · refine .inl ⟨h1, ?_⟩
                    by_cases hn : σ 103 56 = 0
                    · exact hn
                    · exfalso
                      obtain ⟨f, hf, hmax⟩ := jn_ah_max hcb [m % 10] (m := (σ 103 56).toNat) (by omega) (by omega)
                      exact h2 f hf.1 (by omega) ((hmsx f hf.1 (by omega)).mpr ⟨by omega, fun j j0 j1 _ => hmax j j0 (by omega)⟩)
                  · refine .inr ⟨h1, fun j j0 j1 => ((hmsx v h1.1 h1.2).mp h2).2 j j0 j1 ⟨j0, j1⟩, fun i i0 i1 => ?_⟩
                    have h4 := h3 i i0 i1
                    apply Classical.byContradiction
                    intro hn
                    exact h4 ((hmsx i i0 (by omega)).mpr ⟨by omega, fun j j0 j1 _ hh => hn ⟨j, j0, j1, hh⟩⟩)
                · exact absurd hc7 (show ¬ ¬ ((1 : Int) ≥ 1) by omega)
            · exact absurd hc5 (show ¬ ¬ ((1 : Int) ≠ 2) by omega)
          · exact absurd hc4 (show ¬ ¬ ((1 : Int) ≠ 3) by omega)
        · exact absurd hc3 (show ¬ ¬ ((1 : Int) ≠ 0) by omega)
      · rw [hs]
        show jw_W (js_S n) _ md_300 8 [some (.inr (.inr 103)), some (.inl m), none, none, none] [.inl 0] σ _
        refine jw_W_if rfl (by unfold jw_rg; omega) (fun hc8 => ?_) (fun hc8 => ?_)
        · exact absurd hc8 (show ¬ ((0 : Int) ≠ 0) by omega)
        · clear hc8
          refine jw_W_n 1 (i' := 10) (ls' := [some (.inr (.inr 103)), some (.inl m), none, none, none]) (st' := [.inl ((-1))]) rfl ?_
          refine jw_W_ir rfl ?_
          exact ⟨_, rfl, rfl, .inl ⟨rfl, fun hh => by first | exact hok hh | (unfold jn_okW at hh; omega)⟩⟩
theorem jm_behind_2 {n : Nat} {σ : jw_H} {C : List (ge_R × Int)} (hKN : jm_KN σ C) (hW4 : σ 103 4 = 2) {m : Int} (hm : jw_rg m) : jw_T (js_S n) 7 300 [.inr (.inr 103), .inl m] σ (fun r σ' => ∃ v, r = some (.inl v) ∧ σ' = σ ∧ ((v = -1 ∧ ¬ jn_okW 2 m) ∨ (jn_okW 2 m ∧ ((v = -2 ∧ σ 103 56 = 0) ∨ ((0 ≤ v ∧ v < σ 103 56) ∧ (∀ j, 0 ≤ j → j < σ 103 56 → ¬ jn_ah σ [m / 10 % 10, m % 10] j v) ∧ ∀ i, 0 ≤ i → i < v → ∃ j, 0 ≤ j ∧ j < σ 103 56 ∧ jn_ah σ [m / 10 % 10, m % 10] j i))))) := by
  refine jw_T_of (D := 6) (M := mm_300) rfl (Nat.le_of_ble_eq_true rfl) (ls0 := [some (.inr (.inr 103)), some (.inl m), none, none, none]) rfl ?_ (by rintro _ _ ⟨_, rfl, -⟩; rfl)
  have hcb := (jm_kw_cbd hKN.1).2 σ (jm_fk_rf σ)
  have hcn := hcb.1
  have hPm := hKN.1.1
  have hqq := hPm.1
  have hww := hPm.2.1
  have hkk := hPm.2.2.1
  have hg57 := hKN.2.2.1.1
  have hg58 := hKN.2.2.2.1.1
  have rhm := hm
  unfold jw_rg at rhm
  refine jw_W_n 1 (i' := 1) (ls' := [some (.inr (.inr 103)), some (.inl m), none, none, none]) (st' := [.inl m]) rfl ?_
  refine jw_W_if rfl (by unfold jw_rg; omega) (fun hc1 => ?_) (fun hc1 => ?_)
  · have hc1 : m < 0 := hc1
    refine jw_W_n 1 (i' := 10) (ls' := [some (.inr (.inr 103)), some (.inl m), none, none, none]) (st' := [.inl ((-1))]) rfl ?_
    refine jw_W_ir rfl ?_
    exact ⟨_, rfl, rfl, .inl ⟨rfl, fun hh => by first | exact hok hh | (unfold jn_okW at hh; omega)⟩⟩
  · have hc1 : ¬ (m < 0) := hc1
    refine jw_W_n 1 (i' := 3) (ls' := [some (.inr (.inr 103)), some (.inl m), none, none, none]) (st' := [.inr (.inr 103)]) rfl ?_
    refine jw_W_gf rfl rfl rfl ?_
    show jw_W (js_S n) _ md_300 4 [some (.inr (.inr 103)), some (.inl m), none, none, none] [.inl (σ 103 4)] σ _
    rw [hW4]
    refine jw_W_if rfl (by unfold jw_rg; omega) (fun hc2 => ?_) (fun hc2 => ?_)
    · exact absurd hc2 (show ¬ ((2 : Int) = 0) by omega)
    · clear hc2
      refine jw_W_n 2 (i' := 7) (ls' := [some (.inr (.inr 103)), some (.inl m), none, none, none]) (st' := [.inl m, .inr (.inr 103)]) rfl ?_
      refine jw_W_call (as := [.inr (.inr 103), .inl m]) (rest := []) rfl rfl rfl rfl (Nat.le_of_ble_eq_true rfl) (.inr rfl) (jm_isOrder_2 hKN hW4 hm (by omega)) (by omega) ?_ rfl
      rintro r1 σz (⟨rfl, hs, hok⟩ | ⟨rfl, hs, hok⟩)
      · rw [hs]
        have hdg := (jn_dig hok).2.1 rfl
        show jw_W (js_S n) _ md_300 8 [some (.inr (.inr 103)), some (.inl m), none, none, none] [.inl 1] σ _
        refine jw_W_if rfl (by unfold jw_rg; omega) (fun hc3 => ?_) (fun hc3 => ?_)
        · clear hc3
          refine jw_W_n 2 (i' := 13) (ls' := [some (.inr (.inr 103)), some (.inl m), none, none, none]) (st' := [.inr (.inr 103), .inr (.inl 1)]) rfl ?_
          refine jw_W_gf rfl rfl rfl ?_
          show jw_W (js_S n) _ md_300 14 [some (.inr (.inr 103)), some (.inl m), none, none, none] [.inl (σ 103 56), .inr (.inl 1)] σ _
          refine jw_W_n 4 (i' := 18) (ls' := [some (.inr (.inr 103)), some (.inl m), none, none, none]) (st' := [.inl ((jw_lshl 1 (σ 103 56)) - 1)]) rfl ?_
          have hfull := jn_full hcb
          have hf0 := hfull.1
          refine jw_W_n 2 (i' := 20) (ls' := [some (.inr (.inr 103)), some (.inl m), some (.inl ((jw_lshl 1 (σ 103 56)) - 1)), none, none]) (st' := [.inr (.inr 103)]) rfl ?_
          refine jw_W_gf rfl rfl rfl ?_
          show jw_W (js_S n) _ md_300 21 [some (.inr (.inr 103)), some (.inl m), some (.inl ((jw_lshl 1 (σ 103 56)) - 1)), none, none] [.inl (σ 103 4)] σ _
          rw [hW4]
          refine jw_W_n 1 (i' := 22) (ls' := [some (.inr (.inr 103)), some (.inl m), some (.inl ((jw_lshl 1 (σ 103 56)) - 1)), none, none]) (st' := [.inl 3, .inl 2]) rfl ?_
          refine jw_W_ic rfl (by unfold jw_rg; omega) (by unfold jw_rg; omega) (fun hc4 => ?_) (fun hc4 => ?_)
          · clear hc4
            refine jw_W_n 1 (i' := 26) (ls' := [some (.inr (.inr 103)), some (.inl m), some (.inl ((jw_lshl 1 (σ 103 56)) - 1)), none, none]) (st' := [.inr (.inr 103)]) rfl ?_
            refine jw_W_gf rfl rfl rfl ?_
            show jw_W (js_S n) _ md_300 27 [some (.inr (.inr 103)), some (.inl m), some (.inl ((jw_lshl 1 (σ 103 56)) - 1)), none, none] [.inl (σ 103 4)] σ _
            rw [hW4]
            refine jw_W_n 1 (i' := 28) (ls' := [some (.inr (.inr 103)), some (.inl m), some (.inl ((jw_lshl 1 (σ 103 56)) - 1)), none, none]) (st' := [.inl 2, .inl 2]) rfl ?_
            refine jw_W_ic rfl (by unfold jw_rg; omega) (by unfold jw_rg; omega) (fun hc5 => ?_) (fun hc5 => ?_)
            · exact absurd hc5 (show ¬ ((2 : Int) ≠ 2) by omega)
            · clear hc5
              refine jw_W_n 7 (i' := 37) (ls' := [some (.inr (.inr 103)), some (.inl m), some (.inl ((jw_lshl 1 (σ 103 56)) - 1)), some (.inl 10), some (.inl 0)]) (st' := [.inr (.inr 103), .inl 0]) rfl ?_
              refine jw_W_gf rfl rfl rfl ?_
              show jw_W (js_S n) _ md_300 38 [some (.inr (.inr 103)), some (.inl m), some (.inl ((jw_lshl 1 (σ 103 56)) - 1)), some (.inl 10), some (.inl 0)] [.inl (σ 103 4), .inl 0] σ _
              rw [hW4]
              refine jw_W_ic rfl (by unfold jw_rg; omega) (by unfold jw_rg; omega) (fun hc6 => ?_) (fun hc6 => ?_)
              · exact absurd hc6 (show ¬ ((0 : Int) ≥ 2) by omega)
              · clear hc6
                refine jw_W_n 4 (i' := 43) (ls' := [some (.inr (.inr 103)), some (.inl m), some (.inl ((jw_lshl 1 (σ 103 56)) - 1)), some (.inl 10), some (.inl 0)]) (st' := [.inl 10, .inl m, .inl ((jw_lshl 1 (σ 103 56)) - 1), .inr (.inr 103)]) rfl ?_
                refine jw_W_idiv rfl (by unfold jw_rg; omega) (by omega) ?_
                rw [show jw_div m 10 = m / 10 from by rw [jn_dv (by omega) (by omega) (by omega) (by omega)]]
                refine jw_W_n 1 (i' := 45) (ls' := [some (.inr (.inr 103)), some (.inl m), some (.inl ((jw_lshl 1 (σ 103 56)) - 1)), some (.inl 10), some (.inl 0)]) (st' := [.inl 10, .inl (m / 10), .inl ((jw_lshl 1 (σ 103 56)) - 1), .inr (.inr 103)]) rfl ?_
                refine jw_W_irem rfl (by unfold jw_rg; omega) (by omega) ?_
                rw [jm_rem (by omega) (by omega) (by omega) (by omega)]
                refine jw_W_call (as := [.inr (.inr 103), .inl ((jw_lshl 1 (σ 103 56)) - 1), .inl (m / 10 % 10)]) (rest := []) rfl rfl rfl rfl (Nat.le_of_ble_eq_true rfl) (.inr rfl) (jm_mostAmong hKN hfull (by omega) (by omega)) (by omega) ?_ rfl
                rintro r1 σz ⟨l0, rfl, hs, hms0⟩
                rw [hs]
                have hml0 := hms0.1
                show jw_W (js_S n) _ md_300 47 [some (.inr (.inr 103)), some (.inl m), some (.inl ((jw_lshl 1 (σ 103 56)) - 1)), some (.inl 10), some (.inl 0)] [.inl l0] σ _
                refine jw_W_n 4 (i' := 51) (ls' := [some (.inr (.inr 103)), some (.inl m), some (.inl l0), some (.inl 10), some (.inl 0)]) (st' := [.inl 10, .inl 10, .inl 1]) rfl ?_
                refine jw_W_idiv rfl (by unfold jw_rg; omega) (by omega) ?_
                rw [show jw_div 10 10 = 1 from by decide +kernel]
                refine jw_W_call (as := [.inl 1, .inl 1]) (rest := []) rfl rfl rfl rfl (Nat.le_of_ble_eq_true rfl) (.inl rfl) (jm_max (by unfold jw_rg; omega) (by unfold jw_rg; omega)) (by omega) ?_ rfl
                rintro r1 σz ⟨rfl, hs⟩
                rw [hs, show (if (1 : Int) < 1 then (1 : Int) else 1) = 1 from by decide]
                show jw_W (js_S n) _ md_300 53 [some (.inr (.inr 103)), some (.inl m), some (.inl l0), some (.inl 10), some (.inl 0)] [.inl 1] σ _
                refine jw_W_n 5 (i' := 37) (ls' := [some (.inr (.inr 103)), some (.inl m), some (.inl l0), some (.inl 1), some (.inl 1)]) (st' := [.inr (.inr 103), .inl 1]) rfl ?_
                refine jw_W_gf rfl rfl rfl ?_
                show jw_W (js_S n) _ md_300 38 [some (.inr (.inr 103)), some (.inl m), some (.inl l0), some (.inl 1), some (.inl 1)] [.inl (σ 103 4), .inl 1] σ _
                rw [hW4]
                refine jw_W_ic rfl (by unfold jw_rg; omega) (by unfold jw_rg; omega) (fun hc7 => ?_) (fun hc7 => ?_)
                · exact absurd hc7 (show ¬ ((1 : Int) ≥ 2) by omega)
                · clear hc7
                  refine jw_W_n 4 (i' := 43) (ls' := [some (.inr (.inr 103)), some (.inl m), some (.inl l0), some (.inl 1), some (.inl 1)]) (st' := [.inl 1, .inl m, .inl l0, .inr (.inr 103)]) rfl ?_
                  refine jw_W_idiv rfl (by unfold jw_rg; omega) (by omega) ?_
                  rw [show jw_div m 1 = m from by rw [jn_dv (by omega) (by omega) (by omega) (by omega)]; omega]
                  refine jw_W_n 1 (i' := 45) (ls' := [some (.inr (.inr 103)), some (.inl m), some (.inl l0), some (.inl 1), some (.inl 1)]) (st' := [.inl 10, .inl m, .inl l0, .inr (.inr 103)]) rfl ?_
                  refine jw_W_irem rfl (by unfold jw_rg; omega) (by omega) ?_
                  rw [jm_rem (by omega) (by omega) (by omega) (by omega)]
                  refine jw_W_call (as := [.inr (.inr 103), .inl l0, .inl (m % 10)]) (rest := []) rfl rfl rfl rfl (Nat.le_of_ble_eq_true rfl) (.inr rfl) (jm_mostAmong hKN hms0 (by omega) (by omega)) (by omega) ?_ rfl
                  rintro r1 σz ⟨l1, rfl, hs, hms1⟩
                  rw [hs]
                  have hml1 := hms1.1
                  show jw_W (js_S n) _ md_300 47 [some (.inr (.inr 103)), some (.inl m), some (.inl l0), some (.inl 1), some (.inl 1)] [.inl l1] σ _
                  refine jw_W_n 4 (i' := 51) (ls' := [some (.inr (.inr 103)), some (.inl m), some (.inl l1), some (.inl 1), some (.inl 1)]) (st' := [.inl 10, .inl 1, .inl 1]) rfl ?_
                  refine jw_W_idiv rfl (by unfold jw_rg; omega) (by omega) ?_
                  rw [show jw_div 1 10 = 0 from by decide +kernel]
                  refine jw_W_call (as := [.inl 1, .inl 0]) (rest := []) rfl rfl rfl rfl (Nat.le_of_ble_eq_true rfl) (.inl rfl) (jm_max (by unfold jw_rg; omega) (by unfold jw_rg; omega)) (by omega) ?_ rfl
                  rintro r1 σz ⟨rfl, hs⟩
                  rw [hs, show (if (0 : Int) < 1 then (1 : Int) else 0) = 1 from by decide]
                  show jw_W (js_S n) _ md_300 53 [some (.inr (.inr 103)), some (.inl m), some (.inl l1), some (.inl 1), some (.inl 1)] [.inl 1] σ _
                  refine jw_W_n 5 (i' := 37) (ls' := [some (.inr (.inr 103)), some (.inl m), some (.inl l1), some (.inl 1), some (.inl 2)]) (st' := [.inr (.inr 103), .inl 2]) rfl ?_
                  refine jw_W_gf rfl rfl rfl ?_
                  show jw_W (js_S n) _ md_300 38 [some (.inr (.inr 103)), some (.inl m), some (.inl l1), some (.inl 1), some (.inl 2)] [.inl (σ 103 4), .inl 2] σ _
                  rw [hW4]
                  refine jw_W_ic rfl (by unfold jw_rg; omega) (by unfold jw_rg; omega) (fun hc8 => ?_) (fun hc8 => ?_)
                  · clear hc8
                    refine jw_W_n 2 (i' := 58) (ls' := [some (.inr (.inr 103)), some (.inl m), some (.inl l1), some (.inl 1), some (.inl 0)]) (st' := []) rfl ?_
                    have hmsx := fun (a : Int) (a0 : 0 ≤ a) (a1 : a < σ 103 56) => jn_msx_ah hcb (ds := [m / 10 % 10, m % 10]) (T := fun a => 0 ≤ a ∧ a < σ 103 56) a0 a1
                    refine jw_W_mono (jm_bh_loop (D := 6) (by omega) hKN hms1 (σ 103 56).toNat (i := 0) (by omega) (by omega) (fun c c0 c1 => by omega)) ?_
                    rintro r σ' ⟨v, rfl, hs, hv⟩
                    rw [hs]
                    refine ⟨_, rfl, rfl, .inr ⟨hok, ?_⟩⟩
                    rcases hv with ⟨h1, h2⟩ | ⟨h1, h2, h3⟩
                    · refine .inl ⟨h1, ?_⟩
                      by_cases hn : σ 103 56 = 0
                      · exact hn
                      · exfalso
                        obtain ⟨f, hf, hmax⟩ := jn_ah_max hcb [m / 10 % 10, m % 10] (m := (σ 103 56).toNat) (by omega) (by omega)
                        exact h2 f hf.1 (by omega) ((hmsx f hf.1 (by omega)).mpr ⟨by omega, fun j j0 j1 _ => hmax j j0 (by omega)⟩)
                    · refine .inr ⟨h1, fun j j0 j1 => ((hmsx v h1.1 h1.2).mp h2).2 j j0 j1 ⟨j0, j1⟩, fun i i0 i1 => ?_⟩
                      have h4 := h3 i i0 i1
                      apply Classical.byContradiction
                      intro hn
                      exact h4 ((hmsx i i0 (by omega)).mpr ⟨by omega, fun j j0 j1 _ hh => hn ⟨j, j0, j1, hh⟩⟩)
                  · exact absurd hc8 (show ¬ ¬ ((2 : Int) ≥ 2) by omega)
          · exact absurd hc4 (show ¬ ¬ ((2 : Int) ≠ 3) by omega)
        · exact absurd hc3 (show ¬ ¬ ((1 : Int) ≠ 0) by omega)
      · rw [hs]
        show jw_W (js_S n) _ md_300 8 [some (.inr (.inr 103)), some (.inl m), none, none, none] [.inl 0] σ _
        refine jw_W_if rfl (by unfold jw_rg; omega) (fun hc9 => ?_) (fun hc9 => ?_)
        · exact absurd hc9 (show ¬ ((0 : Int) ≠ 0) by omega)
        · clear hc9
          refine jw_W_n 1 (i' := 10) (ls' := [some (.inr (.inr 103)), some (.inl m), none, none, none]) (st' := [.inl ((-1))]) rfl ?_
          refine jw_W_ir rfl ?_
          exact ⟨_, rfl, rfl, .inl ⟨rfl, fun hh => by first | exact hok hh | (unfold jn_okW at hh; omega)⟩⟩
theorem jm_behind_3 {n : Nat} {σ : jw_H} {C : List (ge_R × Int)} (hKN : jm_KN σ C) (hW4 : σ 103 4 = 3) {m : Int} (hm : jw_rg m) : jw_T (js_S n) 7 300 [.inr (.inr 103), .inl m] σ (fun r σ' => ∃ v, r = some (.inl v) ∧ σ' = σ ∧ ((v = -1 ∧ ¬ jn_okW 3 m) ∨ (jn_okW 3 m ∧ ((v = -2 ∧ σ 103 56 = 0) ∨ ((0 ≤ v ∧ v < σ 103 56) ∧ (∀ j, 0 ≤ j → j < σ 103 56 → ¬ jn_ah σ [m / 100 % 10, m / 10 % 10, m % 10] j v) ∧ ∀ i, 0 ≤ i → i < v → ∃ j, 0 ≤ j ∧ j < σ 103 56 ∧ jn_ah σ [m / 100 % 10, m / 10 % 10, m % 10] j i))))) := by
  refine jw_T_of (D := 6) (M := mm_300) rfl (Nat.le_of_ble_eq_true rfl) (ls0 := [some (.inr (.inr 103)), some (.inl m), none, none, none]) rfl ?_ (by rintro _ _ ⟨_, rfl, -⟩; rfl)
  have hcb := (jm_kw_cbd hKN.1).2 σ (jm_fk_rf σ)
  have hcn := hcb.1
  have hPm := hKN.1.1
  have hqq := hPm.1
  have hww := hPm.2.1
  have hkk := hPm.2.2.1
  have hg57 := hKN.2.2.1.1
  have hg58 := hKN.2.2.2.1.1
  have rhm := hm
  unfold jw_rg at rhm
  refine jw_W_n 1 (i' := 1) (ls' := [some (.inr (.inr 103)), some (.inl m), none, none, none]) (st' := [.inl m]) rfl ?_
  refine jw_W_if rfl (by unfold jw_rg; omega) (fun hc1 => ?_) (fun hc1 => ?_)
  · have hc1 : m < 0 := hc1
    refine jw_W_n 1 (i' := 10) (ls' := [some (.inr (.inr 103)), some (.inl m), none, none, none]) (st' := [.inl ((-1))]) rfl ?_
    refine jw_W_ir rfl ?_
    exact ⟨_, rfl, rfl, .inl ⟨rfl, fun hh => by first | exact hok hh | (unfold jn_okW at hh; omega)⟩⟩
  · have hc1 : ¬ (m < 0) := hc1
    refine jw_W_n 1 (i' := 3) (ls' := [some (.inr (.inr 103)), some (.inl m), none, none, none]) (st' := [.inr (.inr 103)]) rfl ?_
    refine jw_W_gf rfl rfl rfl ?_
    show jw_W (js_S n) _ md_300 4 [some (.inr (.inr 103)), some (.inl m), none, none, none] [.inl (σ 103 4)] σ _
    rw [hW4]
    refine jw_W_if rfl (by unfold jw_rg; omega) (fun hc2 => ?_) (fun hc2 => ?_)
    · exact absurd hc2 (show ¬ ((3 : Int) = 0) by omega)
    · clear hc2
      refine jw_W_n 2 (i' := 7) (ls' := [some (.inr (.inr 103)), some (.inl m), none, none, none]) (st' := [.inl m, .inr (.inr 103)]) rfl ?_
      refine jw_W_call (as := [.inr (.inr 103), .inl m]) (rest := []) rfl rfl rfl rfl (Nat.le_of_ble_eq_true rfl) (.inr rfl) (jm_isOrder_3 hKN hW4 hm (by omega)) (by omega) ?_ rfl
      rintro r1 σz (⟨rfl, hs, hok⟩ | ⟨rfl, hs, hok⟩)
      · rw [hs]
        have hdg := (jn_dig hok).2.2 rfl
        show jw_W (js_S n) _ md_300 8 [some (.inr (.inr 103)), some (.inl m), none, none, none] [.inl 1] σ _
        refine jw_W_if rfl (by unfold jw_rg; omega) (fun hc3 => ?_) (fun hc3 => ?_)
        · clear hc3
          refine jw_W_n 2 (i' := 13) (ls' := [some (.inr (.inr 103)), some (.inl m), none, none, none]) (st' := [.inr (.inr 103), .inr (.inl 1)]) rfl ?_
          refine jw_W_gf rfl rfl rfl ?_
          show jw_W (js_S n) _ md_300 14 [some (.inr (.inr 103)), some (.inl m), none, none, none] [.inl (σ 103 56), .inr (.inl 1)] σ _
          refine jw_W_n 4 (i' := 18) (ls' := [some (.inr (.inr 103)), some (.inl m), none, none, none]) (st' := [.inl ((jw_lshl 1 (σ 103 56)) - 1)]) rfl ?_
          have hfull := jn_full hcb
          have hf0 := hfull.1
          refine jw_W_n 2 (i' := 20) (ls' := [some (.inr (.inr 103)), some (.inl m), some (.inl ((jw_lshl 1 (σ 103 56)) - 1)), none, none]) (st' := [.inr (.inr 103)]) rfl ?_
          refine jw_W_gf rfl rfl rfl ?_
          show jw_W (js_S n) _ md_300 21 [some (.inr (.inr 103)), some (.inl m), some (.inl ((jw_lshl 1 (σ 103 56)) - 1)), none, none] [.inl (σ 103 4)] σ _
          rw [hW4]
          refine jw_W_n 1 (i' := 22) (ls' := [some (.inr (.inr 103)), some (.inl m), some (.inl ((jw_lshl 1 (σ 103 56)) - 1)), none, none]) (st' := [.inl 3, .inl 3]) rfl ?_
          refine jw_W_ic rfl (by unfold jw_rg; omega) (by unfold jw_rg; omega) (fun hc4 => ?_) (fun hc4 => ?_)
          · exact absurd hc4 (show ¬ ((3 : Int) ≠ 3) by omega)
          · clear hc4
            refine jw_W_n 7 (i' := 37) (ls' := [some (.inr (.inr 103)), some (.inl m), some (.inl ((jw_lshl 1 (σ 103 56)) - 1)), some (.inl 100), some (.inl 0)]) (st' := [.inr (.inr 103), .inl 0]) rfl ?_
            refine jw_W_gf rfl rfl rfl ?_
            show jw_W (js_S n) _ md_300 38 [some (.inr (.inr 103)), some (.inl m), some (.inl ((jw_lshl 1 (σ 103 56)) - 1)), some (.inl 100), some (.inl 0)] [.inl (σ 103 4), .inl 0] σ _
            rw [hW4]
            refine jw_W_ic rfl (by unfold jw_rg; omega) (by unfold jw_rg; omega) (fun hc5 => ?_) (fun hc5 => ?_)
            · exact absurd hc5 (show ¬ ((0 : Int) ≥ 3) by omega)
            · clear hc5
              refine jw_W_n 4 (i' := 43) (ls' := [some (.inr (.inr 103)), some (.inl m), some (.inl ((jw_lshl 1 (σ 103 56)) - 1)), some (.inl 100), some (.inl 0)]) (st' := [.inl 100, .inl m, .inl ((jw_lshl 1 (σ 103 56)) - 1), .inr (.inr 103)]) rfl ?_
              refine jw_W_idiv rfl (by unfold jw_rg; omega) (by omega) ?_
              rw [show jw_div m 100 = m / 100 from by rw [jn_dv (by omega) (by omega) (by omega) (by omega)]]
              refine jw_W_n 1 (i' := 45) (ls' := [some (.inr (.inr 103)), some (.inl m), some (.inl ((jw_lshl 1 (σ 103 56)) - 1)), some (.inl 100), some (.inl 0)]) (st' := [.inl 10, .inl (m / 100), .inl ((jw_lshl 1 (σ 103 56)) - 1), .inr (.inr 103)]) rfl ?_
              refine jw_W_irem rfl (by unfold jw_rg; omega) (by omega) ?_
              rw [jm_rem (by omega) (by omega) (by omega) (by omega)]
              refine jw_W_call (as := [.inr (.inr 103), .inl ((jw_lshl 1 (σ 103 56)) - 1), .inl (m / 100 % 10)]) (rest := []) rfl rfl rfl rfl (Nat.le_of_ble_eq_true rfl) (.inr rfl) (jm_mostAmong hKN hfull (by omega) (by omega)) (by omega) ?_ rfl
              rintro r1 σz ⟨l0, rfl, hs, hms0⟩
              rw [hs]
              have hml0 := hms0.1
              show jw_W (js_S n) _ md_300 47 [some (.inr (.inr 103)), some (.inl m), some (.inl ((jw_lshl 1 (σ 103 56)) - 1)), some (.inl 100), some (.inl 0)] [.inl l0] σ _
              refine jw_W_n 4 (i' := 51) (ls' := [some (.inr (.inr 103)), some (.inl m), some (.inl l0), some (.inl 100), some (.inl 0)]) (st' := [.inl 10, .inl 100, .inl 1]) rfl ?_
              refine jw_W_idiv rfl (by unfold jw_rg; omega) (by omega) ?_
              rw [show jw_div 100 10 = 10 from by decide +kernel]
              refine jw_W_call (as := [.inl 1, .inl 10]) (rest := []) rfl rfl rfl rfl (Nat.le_of_ble_eq_true rfl) (.inl rfl) (jm_max (by unfold jw_rg; omega) (by unfold jw_rg; omega)) (by omega) ?_ rfl
              rintro r1 σz ⟨rfl, hs⟩
              rw [hs, show (if (10 : Int) < 1 then (1 : Int) else 10) = 10 from by decide]
              show jw_W (js_S n) _ md_300 53 [some (.inr (.inr 103)), some (.inl m), some (.inl l0), some (.inl 100), some (.inl 0)] [.inl 10] σ _
              refine jw_W_n 5 (i' := 37) (ls' := [some (.inr (.inr 103)), some (.inl m), some (.inl l0), some (.inl 10), some (.inl 1)]) (st' := [.inr (.inr 103), .inl 1]) rfl ?_
              refine jw_W_gf rfl rfl rfl ?_
              show jw_W (js_S n) _ md_300 38 [some (.inr (.inr 103)), some (.inl m), some (.inl l0), some (.inl 10), some (.inl 1)] [.inl (σ 103 4), .inl 1] σ _
              rw [hW4]
              refine jw_W_ic rfl (by unfold jw_rg; omega) (by unfold jw_rg; omega) (fun hc6 => ?_) (fun hc6 => ?_)
              · exact absurd hc6 (show ¬ ((1 : Int) ≥ 3) by omega)
              · clear hc6
                refine jw_W_n 4 (i' := 43) (ls' := [some (.inr (.inr 103)), some (.inl m), some (.inl l0), some (.inl 10), some (.inl 1)]) (st' := [.inl 10, .inl m, .inl l0, .inr (.inr 103)]) rfl ?_
                refine jw_W_idiv rfl (by unfold jw_rg; omega) (by omega) ?_
                rw [show jw_div m 10 = m / 10 from by rw [jn_dv (by omega) (by omega) (by omega) (by omega)]]
                refine jw_W_n 1 (i' := 45) (ls' := [some (.inr (.inr 103)), some (.inl m), some (.inl l0), some (.inl 10), some (.inl 1)]) (st' := [.inl 10, .inl (m / 10), .inl l0, .inr (.inr 103)]) rfl ?_
                refine jw_W_irem rfl (by unfold jw_rg; omega) (by omega) ?_
                rw [jm_rem (by omega) (by omega) (by omega) (by omega)]
                refine jw_W_call (as := [.inr (.inr 103), .inl l0, .inl (m / 10 % 10)]) (rest := []) rfl rfl rfl rfl (Nat.le_of_ble_eq_true rfl) (.inr rfl) (jm_mostAmong hKN hms0 (by omega) (by omega)) (by omega) ?_ rfl
                rintro r1 σz ⟨l1, rfl, hs, hms1⟩
                rw [hs]
                have hml1 := hms1.1
                show jw_W (js_S n) _ md_300 47 [some (.inr (.inr 103)), some (.inl m), some (.inl l0), some (.inl 10), some (.inl 1)] [.inl l1] σ _
                refine jw_W_n 4 (i' := 51) (ls' := [some (.inr (.inr 103)), some (.inl m), some (.inl l1), some (.inl 10), some (.inl 1)]) (st' := [.inl 10, .inl 10, .inl 1]) rfl ?_
                refine jw_W_idiv rfl (by unfold jw_rg; omega) (by omega) ?_
                rw [show jw_div 10 10 = 1 from by decide +kernel]
                refine jw_W_call (as := [.inl 1, .inl 1]) (rest := []) rfl rfl rfl rfl (Nat.le_of_ble_eq_true rfl) (.inl rfl) (jm_max (by unfold jw_rg; omega) (by unfold jw_rg; omega)) (by omega) ?_ rfl
                rintro r1 σz ⟨rfl, hs⟩
                rw [hs, show (if (1 : Int) < 1 then (1 : Int) else 1) = 1 from by decide]
                show jw_W (js_S n) _ md_300 53 [some (.inr (.inr 103)), some (.inl m), some (.inl l1), some (.inl 10), some (.inl 1)] [.inl 1] σ _
                refine jw_W_n 5 (i' := 37) (ls' := [some (.inr (.inr 103)), some (.inl m), some (.inl l1), some (.inl 1), some (.inl 2)]) (st' := [.inr (.inr 103), .inl 2]) rfl ?_
                refine jw_W_gf rfl rfl rfl ?_
                show jw_W (js_S n) _ md_300 38 [some (.inr (.inr 103)), some (.inl m), some (.inl l1), some (.inl 1), some (.inl 2)] [.inl (σ 103 4), .inl 2] σ _
                rw [hW4]
                refine jw_W_ic rfl (by unfold jw_rg; omega) (by unfold jw_rg; omega) (fun hc7 => ?_) (fun hc7 => ?_)
                · exact absurd hc7 (show ¬ ((2 : Int) ≥ 3) by omega)
                · clear hc7
                  refine jw_W_n 4 (i' := 43) (ls' := [some (.inr (.inr 103)), some (.inl m), some (.inl l1), some (.inl 1), some (.inl 2)]) (st' := [.inl 1, .inl m, .inl l1, .inr (.inr 103)]) rfl ?_
                  refine jw_W_idiv rfl (by unfold jw_rg; omega) (by omega) ?_
                  rw [show jw_div m 1 = m from by rw [jn_dv (by omega) (by omega) (by omega) (by omega)]; omega]
                  refine jw_W_n 1 (i' := 45) (ls' := [some (.inr (.inr 103)), some (.inl m), some (.inl l1), some (.inl 1), some (.inl 2)]) (st' := [.inl 10, .inl m, .inl l1, .inr (.inr 103)]) rfl ?_
                  refine jw_W_irem rfl (by unfold jw_rg; omega) (by omega) ?_
                  rw [jm_rem (by omega) (by omega) (by omega) (by omega)]
                  refine jw_W_call (as := [.inr (.inr 103), .inl l1, .inl (m % 10)]) (rest := []) rfl rfl rfl rfl (Nat.le_of_ble_eq_true rfl) (.inr rfl) (jm_mostAmong hKN hms1 (by omega) (by omega)) (by omega) ?_ rfl
                  rintro r1 σz ⟨l2, rfl, hs, hms2⟩
                  rw [hs]
                  have hml2 := hms2.1
                  show jw_W (js_S n) _ md_300 47 [some (.inr (.inr 103)), some (.inl m), some (.inl l1), some (.inl 1), some (.inl 2)] [.inl l2] σ _
                  refine jw_W_n 4 (i' := 51) (ls' := [some (.inr (.inr 103)), some (.inl m), some (.inl l2), some (.inl 1), some (.inl 2)]) (st' := [.inl 10, .inl 1, .inl 1]) rfl ?_
                  refine jw_W_idiv rfl (by unfold jw_rg; omega) (by omega) ?_
                  rw [show jw_div 1 10 = 0 from by decide +kernel]
                  refine jw_W_call (as := [.inl 1, .inl 0]) (rest := []) rfl rfl rfl rfl (Nat.le_of_ble_eq_true rfl) (.inl rfl) (jm_max (by unfold jw_rg; omega) (by unfold jw_rg; omega)) (by omega) ?_ rfl
                  rintro r1 σz ⟨rfl, hs⟩
                  rw [hs, show (if (0 : Int) < 1 then (1 : Int) else 0) = 1 from by decide]
                  show jw_W (js_S n) _ md_300 53 [some (.inr (.inr 103)), some (.inl m), some (.inl l2), some (.inl 1), some (.inl 2)] [.inl 1] σ _
                  refine jw_W_n 5 (i' := 37) (ls' := [some (.inr (.inr 103)), some (.inl m), some (.inl l2), some (.inl 1), some (.inl 3)]) (st' := [.inr (.inr 103), .inl 3]) rfl ?_
                  refine jw_W_gf rfl rfl rfl ?_
                  show jw_W (js_S n) _ md_300 38 [some (.inr (.inr 103)), some (.inl m), some (.inl l2), some (.inl 1), some (.inl 3)] [.inl (σ 103 4), .inl 3] σ _
                  rw [hW4]
                  refine jw_W_ic rfl (by unfold jw_rg; omega) (by unfold jw_rg; omega) (fun hc8 => ?_) (fun hc8 => ?_)
                  · clear hc8
                    refine jw_W_n 2 (i' := 58) (ls' := [some (.inr (.inr 103)), some (.inl m), some (.inl l2), some (.inl 1), some (.inl 0)]) (st' := []) rfl ?_
                    have hmsx := fun (a : Int) (a0 : 0 ≤ a) (a1 : a < σ 103 56) => jn_msx_ah hcb (ds := [m / 100 % 10, m / 10 % 10, m % 10]) (T := fun a => 0 ≤ a ∧ a < σ 103 56) a0 a1
                    refine jw_W_mono (jm_bh_loop (D := 6) (by omega) hKN hms2 (σ 103 56).toNat (i := 0) (by omega) (by omega) (fun c c0 c1 => by omega)) ?_
                    rintro r σ' ⟨v, rfl, hs, hv⟩
                    rw [hs]
                    refine ⟨_, rfl, rfl, .inr ⟨hok, ?_⟩⟩
                    rcases hv with ⟨h1, h2⟩ | ⟨h1, h2, h3⟩
                    · refine .inl ⟨h1, ?_⟩
                      by_cases hn : σ 103 56 = 0
                      · exact hn
                      · exfalso
                        obtain ⟨f, hf, hmax⟩ := jn_ah_max hcb [m / 100 % 10, m / 10 % 10, m % 10] (m := (σ 103 56).toNat) (by omega) (by omega)
                        exact h2 f hf.1 (by omega) ((hmsx f hf.1 (by omega)).mpr ⟨by omega, fun j j0 j1 _ => hmax j j0 (by omega)⟩)
                    · refine .inr ⟨h1, fun j j0 j1 => ((hmsx v h1.1 h1.2).mp h2).2 j j0 j1 ⟨j0, j1⟩, fun i i0 i1 => ?_⟩
                      have h4 := h3 i i0 i1
                      apply Classical.byContradiction
                      intro hn
                      exact h4 ((hmsx i i0 (by omega)).mpr ⟨by omega, fun j j0 j1 _ hh => hn ⟨j, j0, j1, hh⟩⟩)
                  · exact absurd hc8 (show ¬ ¬ ((3 : Int) ≥ 3) by omega)
        · exact absurd hc3 (show ¬ ¬ ((1 : Int) ≠ 0) by omega)
      · rw [hs]
        show jw_W (js_S n) _ md_300 8 [some (.inr (.inr 103)), some (.inl m), none, none, none] [.inl 0] σ _
        refine jw_W_if rfl (by unfold jw_rg; omega) (fun hc9 => ?_) (fun hc9 => ?_)
        · exact absurd hc9 (show ¬ ((0 : Int) ≠ 0) by omega)
        · clear hc9
          refine jw_W_n 1 (i' := 10) (ls' := [some (.inr (.inr 103)), some (.inl m), none, none, none]) (st' := [.inl ((-1))]) rfl ?_
          refine jw_W_ir rfl ?_
          exact ⟨_, rfl, rfl, .inl ⟨rfl, fun hh => by first | exact hok hh | (unfold jn_okW at hh; omega)⟩⟩

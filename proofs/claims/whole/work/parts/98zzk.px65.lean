/-! ===== walk: class and reference ===== -/
/-- of a corner and its first so many neighbours the first with the most -/
def jn_sf (σ : jw_H) (G : ge_D) (i : Int) : Nat → Int
  | 0 => i
  | k + 1 => if jb_in (σ 137 i) k ∧ ge_f G (jm_ct σ (jn_sf σ G i k)) * σ 135 (k : Int) < ge_f G (jm_ct σ (k : Int)) * σ 135 (jn_sf σ G i k) then (k : Int) else jn_sf σ G i k
theorem jn_sf_yes {σ : jw_H} {G : ge_D} {i j b : Int} (j0 : 0 ≤ j) (h : b = jn_sf σ G i j.toNat) (h1 : jm_nx σ 137 i j) (h2 : ge_f G (jm_ct σ b) * σ 135 j < ge_f G (jm_ct σ j) * σ 135 b) : j = jn_sf σ G i (j + 1).toNat := by
  rw [show (j + 1).toNat = j.toNat + 1 by omega]
  unfold jn_sf
  rw [← h, Int.toNat_of_nonneg j0, if_pos ⟨h1, h2⟩]
theorem jn_sf_no {σ : jw_H} {G : ge_D} {i j b : Int} (j0 : 0 ≤ j) (h : b = jn_sf σ G i j.toNat) (h1 : ¬ (jm_nx σ 137 i j ∧ ge_f G (jm_ct σ b) * σ 135 j < ge_f G (jm_ct σ j) * σ 135 b)) : b = jn_sf σ G i (j + 1).toNat := by
  rw [show (j + 1).toNat = j.toNat + 1 by omega]
  unfold jn_sf
  rw [← h, Int.toNat_of_nonneg j0]
  exact (if_neg h1).symm
theorem jn_wl_tr {d : ge_D} {a b c : ge_R} (wa : 0 < a.2.2.2) (wb : 0 < b.2.2.2) (wc : 0 < c.2.2.2) (h1 : jx_wl d a b) (h2 : jx_wl d b c) : jx_wl d a c := by
  unfold jx_wl at *
  exact jx_fl3 wa wb wc h1 (Int.le_of_lt h2)
theorem jn_sf_ok {σ : jw_H} {G : ge_D} (hcb : jm_cbd σ) {i : Int} (i0 : 0 ≤ i) (i1 : i < σ 103 56) : ∀ {k : Nat}, (k : Int) ≤ σ 103 56 → (0 ≤ jn_sf σ G i k ∧ jn_sf σ G i k < σ 103 56) ∧ (jn_sf σ G i k = i ∨ jx_wl G (jm_ct σ i) (jm_ct σ (jn_sf σ G i k)))
  | 0, _ => ⟨⟨i0, i1⟩, .inl rfl⟩
  | k + 1, hk => by
    obtain ⟨h1, h2⟩ := jn_sf_ok hcb i0 i1 (k := k) (by omega)
    unfold jn_sf
    by_cases hc : jb_in (σ 137 i) k ∧ ge_f G (jm_ct σ (jn_sf σ G i k)) * σ 135 (k : Int) < ge_f G (jm_ct σ (k : Int)) * σ 135 (jn_sf σ G i k)
    · rw [if_pos hc]
      refine ⟨by omega, .inr ?_⟩
      have hw : jx_wl G (jm_ct σ (jn_sf σ G i k)) (jm_ct σ (k : Int)) := hc.2
      rcases h2 with h2 | h2
      · rw [h2] at hw
        exact hw
      · exact jn_wl_tr (jm_cw hcb i0 i1) (jm_cw hcb h1.1 h1.2) (jm_cw hcb (by omega) (by omega)) h2 hw
    · rw [if_neg hc]
      exact ⟨h1, h2⟩
theorem jn_cn_le {P Q : Int → Prop} : ∀ {m : Nat}, (∀ k : Int, 0 ≤ k → k < m → P k → Q k) → jx_cn P m ≤ jx_cn Q m
  | 0, _ => Int.le_refl _
  | m + 1, h => by
    have h1 := jn_cn_le (m := m) (fun k h0 h1 => h k h0 (by omega))
    have h2 := jx_b_01 (P (m : Int))
    have h3 := jx_b_01 (Q (m : Int))
    unfold jx_cn
    by_cases hp : P (m : Int)
    · rw [jx_b_1 hp, jx_b_1 (h (m : Int) (by omega) (by omega) hp)]
      omega
    · rw [jx_b_0 hp]
      omega
theorem jn_cn_lt {P Q : Int → Prop} {m : Nat} {b : Int} (b0 : 0 ≤ b) (b1 : b < m) (hb : Q b) (hn : ¬ P b) (h : ∀ k : Int, 0 ≤ k → k < m → P k → Q k) : jx_cn P m < jx_cn Q m := by
  have e := jx_cn_out (P := Q) (Q := fun k => Q k ∧ k ≠ b) (b := b) hb (m := m) b0 (fun k _ => Iff.rfl)
  rw [if_pos b1] at e
  have h1 := jn_cn_le (P := P) (Q := fun k => Q k ∧ k ≠ b) (m := m) (fun k k0 k1 hp => ⟨h k k0 k1 hp, fun hh => hn (by rw [← hh]; exact hp)⟩)
  omega
/-- how many corners have more -/
noncomputable def jn_ms (σ : jw_H) (G : ge_D) (i : Int) : Int := jx_cn (fun c => jx_wl G (jm_ct σ i) (jm_ct σ c)) (σ 103 56).toNat
theorem jn_ms_lt {σ : jw_H} {G : ge_D} (hcb : jm_cbd σ) {i b : Int} (i0 : 0 ≤ i) (i1 : i < σ 103 56) (b0 : 0 ≤ b) (b1 : b < σ 103 56) (h : jx_wl G (jm_ct σ i) (jm_ct σ b)) : jn_ms σ G b < jn_ms σ G i := by
  refine jn_cn_lt b0 (by omega) h (fun hh => ?_) (fun k k0 k1 hk => ?_)
  · unfold jx_wl at hh
    omega
  · exact jn_wl_tr (jm_cw hcb i0 i1) (jm_cw hcb b0 b1) (jm_cw hcb k0 (by omega)) h hk
theorem jn_ms_n {σ : jw_H} {G : ge_D} {i : Int} (i0 : 0 ≤ i) (i1 : i < σ 103 56) : 0 ≤ jn_ms σ G i ∧ jn_ms σ G i < σ 103 56 := by
  have h1 := jx_cn_le (fun c => jx_wl G (jm_ct σ i) (jm_ct σ c)) (σ 103 56).toNat
  have h2 := jn_cn_lt (P := fun c => jx_wl G (jm_ct σ i) (jm_ct σ c)) (Q := fun _ => True) (m := (σ 103 56).toNat) (b := i) i0 (by omega) trivial (fun hh => by unfold jx_wl at hh; omega) (fun _ _ _ _ => trivial)
  have h3 := (jx_cn_le (fun _ => True) (σ 103 56).toNat).2
  unfold jn_ms
  omega
/-- a step; so many steps -/
def jn_nb (σ : jw_H) (G : ge_D) (i : Int) : Int := jn_sf σ G i (σ 103 56).toNat
def jn_it (σ : jw_H) (G : ge_D) (i : Int) : Nat → Int
  | 0 => i
  | k + 1 => jn_nb σ G (jn_it σ G i k)
def jn_wkc (σ : jw_H) (i a b c t : Int) : Prop := 0 ≤ i ∧ jm_wok a b c ∧ (t = 0 ∨ t = 1)
/-- where a walk ends -/
def jn_wke (σ : jw_H) (G : ge_D) (i t v : Int) : Prop := ∃ k : Nat, (∀ j, j < k → jn_it σ G i (j + 1) ≠ jn_it σ G i j) ∧ jn_it σ G i (k + 1) = jn_it σ G i k ∧ v = if t = 0 then jn_it σ G i k else (k : Int)
/-- the answer of walk -/
def jn_wka (σ : jw_H) (i a b c t v : Int) : Prop := (v = -1 ∧ ¬ jn_wkc σ i a b c t) ∨ (jn_wkc σ i a b c t ∧ ((v = -4 ∧ σ 103 56 ≤ i) ∨ (i < σ 103 56 ∧ jn_wke σ (jm_gd3 σ a b c) i t v)))
theorem jn_wke_uq {σ : jw_H} {G : ge_D} {i t u v : Int} (h1 : jn_wke σ G i t u) (h2 : jn_wke σ G i t v) : u = v := by
  obtain ⟨k, a1, a2, a3⟩ := h1
  obtain ⟨m, b1, b2, b3⟩ := h2
  have e : k = m := by
    rcases Nat.lt_trichotomy k m with h | h | h
    · exact absurd a2 (b1 k h)
    · exact h
    · exact absurd b2 (a1 m h)
  rw [a3, b3, e]
theorem jn_wka_uq {σ : jw_H} {i a b c t u v : Int} (h1 : jn_wka σ i a b c t u) (h2 : jn_wka σ i a b c t v) : u = v := by
  rcases h1 with ⟨e1, a1⟩ | ⟨a1, ⟨e1, b1⟩ | ⟨b1, c1⟩⟩ <;> rcases h2 with ⟨e2, a2⟩ | ⟨a2, ⟨e2, b2⟩ | ⟨b2, c2⟩⟩ <;> first | exact e1.trans e2.symm | exact absurd a1 a2 | exact absurd a2 a1 | omega | exact jn_wke_uq c1 c2
theorem jn_sf_me {σ0 σ : jw_H} (h : jx_me σ0 σ) (G : ge_D) (i : Int) : ∀ k : Nat, jn_sf σ G i k = jn_sf σ0 G i k
  | 0 => rfl
  | k + 1 => by
    unfold jn_sf
    rw [jn_sf_me h G i k, jx_me_ct h, jx_me_ct h, h 137 (by omega), h 135 (by omega)]
theorem jn_it_me {σ0 σ : jw_H} (h : jx_me σ0 σ) (G : ge_D) (i : Int) : ∀ k : Nat, jn_it σ G i k = jn_it σ0 G i k
  | 0 => rfl
  | k + 1 => by
    unfold jn_it jn_nb
    rw [jn_it_me h G i k, jn_sf_me h, h 103 (by omega)]
theorem jn_wke_me {σ0 σ : jw_H} (h : jx_me σ0 σ) (G : ge_D) (i t v : Int) : jn_wke σ G i t v ↔ jn_wke σ0 G i t v := by
  unfold jn_wke
  have e : jn_it σ G i = jn_it σ0 G i := funext (jn_it_me h G i)
  rw [e]
theorem jn_wka_me {σ0 σ : jw_H} (h : jx_me σ0 σ) (i a b c t v : Int) : jn_wka σ i a b c t v ↔ jn_wka σ0 i a b c t v := by
  unfold jn_wka
  rw [jn_wke_me h, jm_gd3_me h, h 103 (by omega)]
  exact Iff.rfl
theorem jn_it_ok {σ : jw_H} {G : ge_D} (hcb : jm_cbd σ) {i : Int} (i0 : 0 ≤ i) (i1 : i < σ 103 56) : ∀ k : Nat, 0 ≤ jn_it σ G i k ∧ jn_it σ G i k < σ 103 56
  | 0 => ⟨i0, i1⟩
  | k + 1 => by
    have h := jn_it_ok hcb i0 i1 k (G := G)
    have hn := hcb.1
    exact (jn_sf_ok hcb h.1 h.2 (k := (σ 103 56).toNat) (by omega)).1
theorem jn_it_ms {σ : jw_H} {G : ge_D} (hcb : jm_cbd σ) {i : Int} (i0 : 0 ≤ i) (i1 : i < σ 103 56) {k : Nat} (h : jn_it σ G i (k + 1) ≠ jn_it σ G i k) : jn_ms σ G (jn_it σ G i (k + 1)) < jn_ms σ G (jn_it σ G i k) := by
  have hk := jn_it_ok hcb i0 i1 k (G := G)
  have hk2 := jn_it_ok hcb i0 i1 (k + 1) (G := G)
  have hn := hcb.1
  refine jn_ms_lt hcb hk.1 hk.2 hk2.1 hk2.2 ?_
  exact (jn_sf_ok hcb hk.1 hk.2 (k := (σ 103 56).toNat) (G := G) (by omega)).2.resolve_left h
theorem jm_step_loop {n : Nat} {σ : jw_H} {C : List (ge_R × Int)} (hKN : jm_KN σ C) (hw3 : ∀ k, 0 ≤ k → k < 3 → 0 ≤ σ 142 k ∧ σ 142 k ≤ 9) {i : Int} (i0 : 0 ≤ i) (i1 : i < σ 103 56) : ∀ (f : Nat) {b j : Int}, 0 ≤ j → j + f = σ 103 56 → (0 ≤ b ∧ b < σ 103 56) → b = jn_sf σ (jm_gk σ (σ 142) (σ 103 4).toNat) i j.toNat → jw_W (js_S n) 4 md_322 4 [some (.inr (.inr 103)), some (.inl i), some (.inl b), some (.inl j)] [] σ (fun r σ' => r = some (.inl (jn_nb σ (jm_gk σ (σ 142) (σ 103 4).toNat) i)) ∧ σ' = σ)
  | f, b, j, j0, hk, hb, H => by
    have ih : ∀ {b' : Int}, j < σ 103 56 → (0 ≤ b' ∧ b' < σ 103 56) → b' = jn_sf σ (jm_gk σ (σ 142) (σ 103 4).toNat) i (j + 1).toNat → jw_W (js_S n) 4 md_322 4 [some (.inr (.inr 103)), some (.inl i), some (.inl b'), some (.inl (j + 1))] [] σ (fun r σ' => r = some (.inl (jn_nb σ (jm_gk σ (σ 142) (σ 103 4).toNat) i)) ∧ σ' = σ) := by
      intro b' h1 h2 h3
      match f, hk with
      | 0, hk => omega
      | f + 1, hk => exact jm_step_loop hKN hw3 i0 i1 f (by omega) (by omega) h2 h3
    have hcb := (jm_kw_cbd hKN.1).2 σ (jm_fk_rf σ)
    have hcn := hcb.1
    have hPm := hKN.1.1
    have hqq := hPm.1
    have hww := hPm.2.1
    have hkk := hPm.2.2.1
    have hg57 := hKN.2.2.1.1
    have hg58 := hKN.2.2.2.1.1
    have hGb := jm_gk_Gb hPm (w := σ 142) (fun k k0 k1 => hw3 k k0 (by omega))
    have hl56 := hKN.1.2.1.1.1
    have hm := hKN.2.1.1 i i0 (by omega)
    refine jw_W_n 2 (i' := 6) (ls' := [some (.inr (.inr 103)), some (.inl i), some (.inl b), some (.inl j)]) (st' := [.inr (.inr 103), .inl j]) rfl ?_
    refine jw_W_gf rfl rfl rfl ?_
    show jw_W (js_S n) _ md_322 7 [some (.inr (.inr 103)), some (.inl i), some (.inl b), some (.inl j)] [.inl (σ 103 56), .inl j] σ _
    refine jw_W_ic rfl (by unfold jw_rg; omega) (by unfold jw_rg; omega) (fun hc1 => ?_) (fun hc1 => ?_)
    · have hc1 : j ≥ (σ 103 56) := hc1
      refine jw_W_n 1 (i' := 38) (ls' := [some (.inr (.inr 103)), some (.inl i), some (.inl b), some (.inl j)]) (st' := [.inl b]) rfl ?_
      refine jw_W_ir rfl ?_
      have hkl : j = σ 103 56 := by omega
      subst hkl
      exact ⟨by rw [H]; rfl, rfl⟩
    · have hc1 : ¬ (j ≥ (σ 103 56)) := hc1
      refine jw_W_n 1 (i' := 9) (ls' := [some (.inr (.inr 103)), some (.inl i), some (.inl b), some (.inl j)]) (st' := [.inr (.inr 103)]) rfl ?_
      refine jw_W_gf rfl rfl rfl ?_
      show jw_W (js_S n) _ md_322 10 [some (.inr (.inr 103)), some (.inl i), some (.inl b), some (.inl j)] [.inr (.inr 137)] σ _
      refine jw_W_n 1 (i' := 11) (ls' := [some (.inr (.inr 103)), some (.inl i), some (.inl b), some (.inl j)]) (st' := [.inl i, .inr (.inr 137)]) rfl ?_
      refine jw_W_ia rfl rfl (by omega) (by omega) (by omega) ?_
      show jw_W (js_S n) _ md_322 12 [some (.inr (.inr 103)), some (.inl i), some (.inl b), some (.inl j)] [.inl (σ 137 i)] σ _
      refine jw_W_n 1 (i' := 13) (ls' := [some (.inr (.inr 103)), some (.inl i), some (.inl b), some (.inl j)]) (st' := [.inl j, .inl (σ 137 i)]) rfl ?_
      refine jw_W_call (as := [.inl (σ 137 i), .inl j]) (rest := []) rfl rfl rfl rfl (Nat.le_of_ble_eq_true rfl) (.inl rfl) (jm_has hm.1 (by have := hm.2; omega) (by omega) (by omega)) (by omega) ?_ rfl
      rintro r1 σz (⟨rfl, hs, hg⟩ | ⟨rfl, hs, hg⟩)
      · rw [hs]
        show jw_W (js_S n) _ md_322 14 [some (.inr (.inr 103)), some (.inl i), some (.inl b), some (.inl j)] [.inl 1] σ _
        refine jw_W_if rfl (by unfold jw_rg; omega) (fun hc2 => ?_) (fun hc2 => ?_)
        · exact absurd hc2 (show ¬ ((1 : Int) = 0) by omega)
        · clear hc2
          refine jw_W_n 2 (i' := 17) (ls' := [some (.inr (.inr 103)), some (.inl i), some (.inl b), some (.inl j)]) (st' := [.inl j, .inr (.inr 103)]) rfl ?_
          refine jw_W_call (as := [.inr (.inr 103), .inl j]) (rest := []) rfl rfl rfl rfl (Nat.le_of_ble_eq_true rfl) (.inr rfl) (jm_weighedOf hKN hw3 (by omega) (by omega)) (by omega) ?_ rfl
          rintro r1 σz ⟨rfl, hs⟩
          rw [hs]
          show jw_W (js_S n) _ md_322 18 [some (.inr (.inr 103)), some (.inl i), some (.inl b), some (.inl j)] [.inr (.inl (ge_f (jm_gk σ (σ 142) (σ 103 4).toNat) (jm_ct σ j)))] σ _
          refine jw_W_n 1 (i' := 19) (ls' := [some (.inr (.inr 103)), some (.inl i), some (.inl b), some (.inl j)]) (st' := [.inr (.inr 103), .inr (.inl (ge_f (jm_gk σ (σ 142) (σ 103 4).toNat) (jm_ct σ j)))]) rfl ?_
          refine jw_W_gf rfl rfl rfl ?_
          show jw_W (js_S n) _ md_322 20 [some (.inr (.inr 103)), some (.inl i), some (.inl b), some (.inl j)] [.inr (.inr 135), .inr (.inl (ge_f (jm_gk σ (σ 142) (σ 103 4).toNat) (jm_ct σ j)))] σ _
          refine jw_W_n 1 (i' := 21) (ls' := [some (.inr (.inr 103)), some (.inl i), some (.inl b), some (.inl j)]) (st' := [.inl b, .inr (.inr 135), .inr (.inl (ge_f (jm_gk σ (σ 142) (σ 103 4).toNat) (jm_ct σ j)))]) rfl ?_
          refine jw_W_la rfl rfl (by omega) (by omega) (by omega) ?_
          show jw_W (js_S n) _ md_322 22 [some (.inr (.inr 103)), some (.inl i), some (.inl b), some (.inl j)] [.inr (.inl (σ 135 b)), .inr (.inl (ge_f (jm_gk σ (σ 142) (σ 103 4).toNat) (jm_ct σ j)))] σ _
          refine jw_W_n 3 (i' := 25) (ls' := [some (.inr (.inr 103)), some (.inl i), some (.inl b), some (.inl j)]) (st' := [.inl b, .inr (.inr 103), .inr (.inl ((ge_f (jm_gk σ (σ 142) (σ 103 4).toNat) (jm_ct σ j)) * (σ 135 b)))]) rfl ?_
          refine jw_W_call (as := [.inr (.inr 103), .inl b]) (rest := [.inr (.inl ((ge_f (jm_gk σ (σ 142) (σ 103 4).toNat) (jm_ct σ j)) * (σ 135 b)))]) rfl rfl rfl rfl (Nat.le_of_ble_eq_true rfl) (.inr rfl) (jm_weighedOf hKN hw3 (by omega) (by omega)) (by omega) ?_ rfl
          rintro r1 σz ⟨rfl, hs⟩
          rw [hs]
          show jw_W (js_S n) _ md_322 26 [some (.inr (.inr 103)), some (.inl i), some (.inl b), some (.inl j)] [.inr (.inl (ge_f (jm_gk σ (σ 142) (σ 103 4).toNat) (jm_ct σ b))), .inr (.inl ((ge_f (jm_gk σ (σ 142) (σ 103 4).toNat) (jm_ct σ j)) * (σ 135 b)))] σ _
          refine jw_W_n 1 (i' := 27) (ls' := [some (.inr (.inr 103)), some (.inl i), some (.inl b), some (.inl j)]) (st' := [.inr (.inr 103), .inr (.inl (ge_f (jm_gk σ (σ 142) (σ 103 4).toNat) (jm_ct σ b))), .inr (.inl ((ge_f (jm_gk σ (σ 142) (σ 103 4).toNat) (jm_ct σ j)) * (σ 135 b)))]) rfl ?_
          refine jw_W_gf rfl rfl rfl ?_
          show jw_W (js_S n) _ md_322 28 [some (.inr (.inr 103)), some (.inl i), some (.inl b), some (.inl j)] [.inr (.inr 135), .inr (.inl (ge_f (jm_gk σ (σ 142) (σ 103 4).toNat) (jm_ct σ b))), .inr (.inl ((ge_f (jm_gk σ (σ 142) (σ 103 4).toNat) (jm_ct σ j)) * (σ 135 b)))] σ _
          refine jw_W_n 1 (i' := 29) (ls' := [some (.inr (.inr 103)), some (.inl i), some (.inl b), some (.inl j)]) (st' := [.inl j, .inr (.inr 135), .inr (.inl (ge_f (jm_gk σ (σ 142) (σ 103 4).toNat) (jm_ct σ b))), .inr (.inl ((ge_f (jm_gk σ (σ 142) (σ 103 4).toNat) (jm_ct σ j)) * (σ 135 b)))]) rfl ?_
          refine jw_W_la rfl rfl (by omega) (by omega) (by omega) ?_
          show jw_W (js_S n) _ md_322 30 [some (.inr (.inr 103)), some (.inl i), some (.inl b), some (.inl j)] [.inr (.inl (σ 135 j)), .inr (.inl (ge_f (jm_gk σ (σ 142) (σ 103 4).toNat) (jm_ct σ b))), .inr (.inl ((ge_f (jm_gk σ (σ 142) (σ 103 4).toNat) (jm_ct σ j)) * (σ 135 b)))] σ _
          refine jw_W_n 1 (i' := 31) (ls' := [some (.inr (.inr 103)), some (.inl i), some (.inl b), some (.inl j)]) (st' := [.inr (.inl ((ge_f (jm_gk σ (σ 142) (σ 103 4).toNat) (jm_ct σ b)) * (σ 135 j))), .inr (.inl ((ge_f (jm_gk σ (σ 142) (σ 103 4).toNat) (jm_ct σ j)) * (σ 135 b)))]) rfl ?_
          have f1 := jx_f_bd hGb (jx_ct_bd hcb (i := j) (by omega) (by omega))
          have f2 := jx_f_bd hGb (jx_ct_bd hcb (i := b) (by omega) (by omega))
          have c1 := jm_cw hcb (i := j) (by omega) (by omega)
          have c2 := jm_cw hcb (i := b) (by omega) (by omega)
          have c3 : σ 135 j ≤ 162 := (hcb.2 j (by omega) (by omega)).2
          have c4 : σ 135 b ≤ 162 := (hcb.2 b (by omega) (by omega)).2
          have m1 := jx_mfw (x := ge_f (jm_gk σ (σ 142) (σ 103 4).toNat) (jm_ct σ j)) (y := σ 135 b) f1 (by omega)
          have m2 := jx_mfw (x := ge_f (jm_gk σ (σ 142) (σ 103 4).toNat) (jm_ct σ b)) (y := σ 135 j) f2 (by omega)
          refine jw_W_lc rfl rfl (by unfold jw_rgl; omega) (by unfold jw_rgl; omega) (fun hc3 => ?_) (fun hc3 => ?_)
          · have hc3 : ((ge_f (jm_gk σ (σ 142) (σ 103 4).toNat) (jm_ct σ j)) * (σ 135 b)) ≤ ((ge_f (jm_gk σ (σ 142) (σ 103 4).toNat) (jm_ct σ b)) * (σ 135 j)) := hc3
            refine jw_W_n 2 (i' := 4) (ls' := [some (.inr (.inr 103)), some (.inl i), some (.inl b), some (.inl (j + 1))]) (st' := []) rfl ?_
            exact ih (by omega) (by omega) (jn_sf_no j0 H (fun hh => by first | exact hg hh.1 | (have := hh.2; omega)))
          · have hc3 : ¬ (((ge_f (jm_gk σ (σ 142) (σ 103 4).toNat) (jm_ct σ j)) * (σ 135 b)) ≤ ((ge_f (jm_gk σ (σ 142) (σ 103 4).toNat) (jm_ct σ b)) * (σ 135 j))) := hc3
            refine jw_W_n 4 (i' := 4) (ls' := [some (.inr (.inr 103)), some (.inl i), some (.inl j), some (.inl (j + 1))]) (st' := []) rfl ?_
            exact ih (by omega) (by omega) (jn_sf_yes j0 H hg (by omega))
      · rw [hs]
        show jw_W (js_S n) _ md_322 14 [some (.inr (.inr 103)), some (.inl i), some (.inl b), some (.inl j)] [.inl 0] σ _
        refine jw_W_if rfl (by unfold jw_rg; omega) (fun hc4 => ?_) (fun hc4 => ?_)
        · clear hc4
          refine jw_W_n 2 (i' := 4) (ls' := [some (.inr (.inr 103)), some (.inl i), some (.inl b), some (.inl (j + 1))]) (st' := []) rfl ?_
          exact ih (by omega) (by omega) (jn_sf_no j0 H (fun hh => by first | exact hg hh.1 | (have := hh.2; omega)))
        · exact absurd hc4 (show ¬ ¬ ((0 : Int) = 0) by omega)
theorem jm_stepFrom {n : Nat} {σ : jw_H} {C : List (ge_R × Int)} (hKN : jm_KN σ C) (hw3 : ∀ k, 0 ≤ k → k < 3 → 0 ≤ σ 142 k ∧ σ 142 k ≤ 9) {i : Int} (i0 : 0 ≤ i) (i1 : i < σ 103 56)  : jw_T (js_S n) 5 322 [.inr (.inr 103), .inl i] σ (fun r σ' => r = some (.inl (jn_nb σ (jm_gk σ (σ 142) (σ 103 4).toNat) i)) ∧ σ' = σ) := by
  refine jw_T_of (D := 4) (M := mm_322) rfl (Nat.le_of_ble_eq_true rfl) (ls0 := [some (.inr (.inr 103)), some (.inl i), none, none]) rfl ?_ (by rintro _ _ ⟨rfl, -⟩; rfl)
  have hcb := (jm_kw_cbd hKN.1).2 σ (jm_fk_rf σ)
  have hcn := hcb.1
  have hPm := hKN.1.1
  have hqq := hPm.1
  have hww := hPm.2.1
  have hkk := hPm.2.2.1
  have hg57 := hKN.2.2.1.1
  have hg58 := hKN.2.2.2.1.1
  refine jw_W_n 4 (i' := 4) (ls' := [some (.inr (.inr 103)), some (.inl i), some (.inl i), some (.inl 0)]) (st' := []) rfl ?_
  exact jm_step_loop hKN hw3 i0 i1 (σ 103 56).toNat (b := i) (j := 0) (by omega) (by omega) (by omega) rfl
theorem jm_walk_loop {n : Nat} {σ : jw_H} {C : List (ge_R × Int)} (hKN : jm_KN σ C) (hw3 : ∀ k, 0 ≤ k → k < 3 → 0 ≤ σ 142 k ∧ σ 142 k ≤ 9) {i : Int} (i0 : 0 ≤ i) (i1 : i < σ 103 56) {a b2 c t : Int} (ht : t = 0 ∨ t = 1) : ∀ (f : Nat) {k : Nat} {x s : Int}, x = jn_it σ (jm_gk σ (σ 142) (σ 103 4).toNat) i k → s = (k : Int) → (∀ j, j < k → jn_it σ (jm_gk σ (σ 142) (σ 103 4).toNat) i (j + 1) ≠ jn_it σ (jm_gk σ (σ 142) (σ 103 4).toNat) i j) → jn_ms σ (jm_gk σ (σ 142) (σ 103 4).toNat) x < f → (k : Int) + jn_ms σ (jm_gk σ (σ 142) (σ 103 4).toNat) x < σ 103 56 → jw_W (js_S n) 5 md_323 25 [some (.inr (.inr 103)), some (.inl i), some (.inl a), some (.inl b2), some (.inl c), some (.inl t), some (.inl x), some (.inl s)] [] σ (fun r σ' => ∃ v, r = some (.inl v) ∧ σ' = σ ∧ jn_wke σ (jm_gk σ (σ 142) (σ 103 4).toNat) i t v)
  | f, k, x, s, hx, hs2, Hd, hf, hkn => by
    have hcb := (jm_kw_cbd hKN.1).2 σ (jm_fk_rf σ)
    have hcn := hcb.1
    have hPm := hKN.1.1
    have hqq := hPm.1
    have hww := hPm.2.1
    have hkk := hPm.2.2.1
    have hg57 := hKN.2.2.1.1
    have hg58 := hKN.2.2.2.1.1
    have hx0 := jn_it_ok hcb i0 i1 k (G := (jm_gk σ (σ 142) (σ 103 4).toNat))
    rw [← hx] at hx0
    have hms := jn_ms_n (G := (jm_gk σ (σ 142) (σ 103 4).toNat)) hx0.1 hx0.2
    have ih : jn_nb σ (jm_gk σ (σ 142) (σ 103 4).toNat) x ≠ x → jw_W (js_S n) 5 md_323 25 [some (.inr (.inr 103)), some (.inl i), some (.inl a), some (.inl b2), some (.inl c), some (.inl t), some (.inl (jn_nb σ (jm_gk σ (σ 142) (σ 103 4).toNat) x)), some (.inl (s + 1))] [] σ (fun r σ' => ∃ v, r = some (.inl v) ∧ σ' = σ ∧ jn_wke σ (jm_gk σ (σ 142) (σ 103 4).toNat) i t v) := by
      intro h1
      have e1 : jn_nb σ (jm_gk σ (σ 142) (σ 103 4).toNat) x = jn_it σ (jm_gk σ (σ 142) (σ 103 4).toNat) i (k + 1) := by rw [hx]; rfl
      have h2 : jn_it σ (jm_gk σ (σ 142) (σ 103 4).toNat) i (k + 1) ≠ jn_it σ (jm_gk σ (σ 142) (σ 103 4).toNat) i k := by rw [← e1, ← hx]; exact h1
      have h3 := jn_it_ms hcb i0 i1 h2
      rw [← e1, ← hx] at h3
      match f, hf with
      | 0, hf => omega
      | f + 1, hf => exact jm_walk_loop hKN hw3 i0 i1 ht f (k := k + 1) e1 (by omega) (fun j hj => by
          by_cases ej : j = k
          · rw [ej]
            exact h2
          · exact Hd j (by omega)) (by omega) (by omega)
    refine jw_W_n 2 (i' := 27) (ls' := [some (.inr (.inr 103)), some (.inl i), some (.inl a), some (.inl b2), some (.inl c), some (.inl t), some (.inl x), some (.inl s)]) (st' := [.inl x, .inr (.inr 103)]) rfl ?_
    refine jw_W_call (as := [.inr (.inr 103), .inl x]) (rest := []) rfl rfl rfl rfl (Nat.le_of_ble_eq_true rfl) (.inr rfl) (jm_stepFrom hKN hw3 hx0.1 hx0.2) (by omega) ?_ rfl
    rintro r1 σz ⟨rfl, hs⟩
    rw [hs]
    show jw_W (js_S n) _ md_323 28 [some (.inr (.inr 103)), some (.inl i), some (.inl a), some (.inl b2), some (.inl c), some (.inl t), some (.inl x), some (.inl s)] [.inl (jn_nb σ (jm_gk σ (σ 142) (σ 103 4).toNat) x)] σ _
    refine jw_W_n 1 (i' := 29) (ls' := [some (.inr (.inr 103)), some (.inl i), some (.inl a), some (.inl b2), some (.inl c), some (.inl t), some (.inl x), some (.inl s)]) (st' := [.inl x, .inl (jn_nb σ (jm_gk σ (σ 142) (σ 103 4).toNat) x)]) rfl ?_
    have hnb := (jn_sf_ok (G := (jm_gk σ (σ 142) (σ 103 4).toNat)) hcb hx0.1 hx0.2 (k := (σ 103 56).toNat) (by omega)).1
    have hnb : 0 ≤ jn_nb σ (jm_gk σ (σ 142) (σ 103 4).toNat) x ∧ jn_nb σ (jm_gk σ (σ 142) (σ 103 4).toNat) x < σ 103 56 := hnb
    refine jw_W_ic rfl (by unfold jw_rg; omega) (by unfold jw_rg; omega) (fun hc1 => ?_) (fun hc1 => ?_)
    · have hc1 : (jn_nb σ (jm_gk σ (σ 142) (σ 103 4).toNat) x) = x := hc1
      refine jw_W_n 1 (i' := 40) (ls' := [some (.inr (.inr 103)), some (.inl i), some (.inl a), some (.inl b2), some (.inl c), some (.inl t), some (.inl x), some (.inl s)]) (st' := [.inl t]) rfl ?_
      refine jw_W_if rfl (by unfold jw_rg; omega) (fun hc2 => ?_) (fun hc2 => ?_)
      · have hc2 : t ≠ 0 := hc2
        refine jw_W_n 1 (i' := 44) (ls' := [some (.inr (.inr 103)), some (.inl i), some (.inl a), some (.inl b2), some (.inl c), some (.inl t), some (.inl x), some (.inl s)]) (st' := [.inl s]) rfl ?_
        refine jw_W_ir rfl ?_
        refine ⟨_, rfl, rfl, k, Hd, ?_, ?_⟩
        · show jn_nb σ _ (jn_it σ _ i k) = _
          rw [← hx]
          omega
        · rw [if_neg (by omega), hs2]
      · have hc2 : t = 0 := Classical.not_not.mp hc2
        refine jw_W_n 2 (i' := 44) (ls' := [some (.inr (.inr 103)), some (.inl i), some (.inl a), some (.inl b2), some (.inl c), some (.inl t), some (.inl x), some (.inl s)]) (st' := [.inl x]) rfl ?_
        refine jw_W_ir rfl ?_
        refine ⟨_, rfl, rfl, k, Hd, ?_, ?_⟩
        · show jn_nb σ _ (jn_it σ _ i k) = _
          rw [← hx]
          omega
        · rw [if_pos (by omega), hx]
    · have hc1 : ¬ ((jn_nb σ (jm_gk σ (σ 142) (σ 103 4).toNat) x) = x) := hc1
      refine jw_W_n 2 (i' := 32) (ls' := [some (.inr (.inr 103)), some (.inl i), some (.inl a), some (.inl b2), some (.inl c), some (.inl t), some (.inl x), some (.inl s)]) (st' := [.inl x, .inr (.inr 103)]) rfl ?_
      refine jw_W_call (as := [.inr (.inr 103), .inl x]) (rest := []) rfl rfl rfl rfl (Nat.le_of_ble_eq_true rfl) (.inr rfl) (jm_stepFrom hKN hw3 hx0.1 hx0.2) (by omega) ?_ rfl
      rintro r1 σz ⟨rfl, hs⟩
      rw [hs]
      show jw_W (js_S n) _ md_323 33 [some (.inr (.inr 103)), some (.inl i), some (.inl a), some (.inl b2), some (.inl c), some (.inl t), some (.inl x), some (.inl s)] [.inl (jn_nb σ (jm_gk σ (σ 142) (σ 103 4).toNat) x)] σ _
      refine jw_W_n 6 (i' := 25) (ls' := [some (.inr (.inr 103)), some (.inl i), some (.inl a), some (.inl b2), some (.inl c), some (.inl t), some (.inl (jn_nb σ (jm_gk σ (σ 142) (σ 103 4).toNat) x)), some (.inl (s + 1))]) (st' := []) rfl ?_
      exact ih (by omega)
theorem jn_wke_cg {σ σ1 : jw_H} (e103 : σ1 103 = σ 103) (e135 : σ1 135 = σ 135) (e137 : σ1 137 = σ 137) (ect : jm_ct σ1 = jm_ct σ) {G : ge_D} {i t v : Int} : jn_wke σ1 G i t v ↔ jn_wke σ G i t v := by
  have h1 : ∀ (i : Int) (k : Nat), jn_sf σ1 G i k = jn_sf σ G i k := by
    intro i k
    induction k with
    | zero => rfl
    | succ k ih =>
      unfold jn_sf
      rw [ih, ect, e135, e137]
  have h2 : ∀ k : Nat, jn_it σ1 G i k = jn_it σ G i k := by
    intro k
    induction k with
    | zero => rfl
    | succ k ih =>
      unfold jn_it jn_nb
      rw [ih, h1, e103]
  unfold jn_wke
  have e : jn_it σ1 G i = jn_it σ G i := funext h2
  rw [e]
theorem jm_walk {n : Nat} {σ : jw_H} {C : List (ge_R × Int)} (hKN : jm_KN σ C) {i a b2 c t : Int} (hi : jw_rg i) (ra : jw_rg a) (rb : jw_rg b2) (rc : jw_rg c) (ht : jw_rg t) : jw_T (js_S n) 6 323 [.inr (.inr 103), .inl i, .inl a, .inl b2, .inl c, .inl t] σ (fun r σ' => ∃ v, r = some (.inl v) ∧ jm_fz σ σ' ∧ jn_wka σ i a b2 c t v) := by
  refine jw_T_of (D := 5) (M := mm_323) rfl (Nat.le_of_ble_eq_true rfl) (ls0 := [some (.inr (.inr 103)), some (.inl i), some (.inl a), some (.inl b2), some (.inl c), some (.inl t), none, none]) rfl ?_ (by rintro _ _ ⟨_, rfl, -⟩; rfl)
  have hcb := (jm_kw_cbd hKN.1).2 σ (jm_fk_rf σ)
  have hcn := hcb.1
  have hPm := hKN.1.1
  have hqq := hPm.1
  have hww := hPm.2.1
  have hkk := hPm.2.2.1
  have hg57 := hKN.2.2.1.1
  have hg58 := hKN.2.2.2.1.1
  have rhi := hi
  unfold jw_rg at rhi
  have rht := ht
  unfold jw_rg at rht
  refine jw_W_n 1 (i' := 1) (ls' := [some (.inr (.inr 103)), some (.inl i), some (.inl a), some (.inl b2), some (.inl c), some (.inl t), none, none]) (st' := [.inl i]) rfl ?_
  refine jw_W_if rfl (by unfold jw_rg; omega) (fun hc1 => ?_) (fun hc1 => ?_)
  · have hc1 : i < 0 := hc1
    refine jw_W_n 1 (i' := 14) (ls' := [some (.inr (.inr 103)), some (.inl i), some (.inl a), some (.inl b2), some (.inl c), some (.inl t), none, none]) (st' := [.inl ((-1))]) rfl ?_
    refine jw_W_ir rfl ?_
    exact ⟨_, rfl, jm_fz_rf hKN, .inl ⟨rfl, fun hh => by obtain ⟨z1, z2, z3⟩ := hh; first | omega | (rcases hu with hu | hu; omega; exact absurd z2 hu.2)⟩⟩
  · have hc1 : ¬ (i < 0) := hc1
    refine jw_W_n 4 (i' := 6) (ls' := [some (.inr (.inr 103)), some (.inl i), some (.inl a), some (.inl b2), some (.inl c), some (.inl t), none, none]) (st' := [.inl c, .inl b2, .inl a, .inr (.inr 103)]) rfl ?_
    refine jw_W_call (as := [.inr (.inr 103), .inl a, .inl b2, .inl c]) (rest := []) rfl rfl rfl rfl (Nat.le_of_ble_eq_true rfl) (.inr rfl) (jm_takesW ra rb rc) (by omega) ?_ rfl
    rintro r1 σ1 ⟨u, rfl, hf1, hu⟩
    have hz1 := jm_w142_z hKN hf1
    have e103 := hf1.1 103 (by omega)
    have e56 : σ1 103 56 = σ 103 56 := by rw [e103]
    show jw_W (js_S n) _ md_323 7 [some (.inr (.inr 103)), some (.inl i), some (.inl a), some (.inl b2), some (.inl c), some (.inl t), none, none] [.inl u] σ1 _
    refine jw_W_if rfl (by unfold jw_rg; omega) (fun hc2 => ?_) (fun hc2 => ?_)
    · have hc2 : u = 0 := hc2
      refine jw_W_n 1 (i' := 14) (ls' := [some (.inr (.inr 103)), some (.inl i), some (.inl a), some (.inl b2), some (.inl c), some (.inl t), none, none]) (st' := [.inl ((-1))]) rfl ?_
      refine jw_W_ir rfl ?_
      exact ⟨_, rfl, hz1, .inl ⟨rfl, fun hh => by obtain ⟨z1, z2, z3⟩ := hh; first | omega | (rcases hu with hu | hu; omega; exact absurd z2 hu.2)⟩⟩
    · have hc2 : ¬ (u = 0) := hc2
      refine jw_W_n 3 (i' := 11) (ls' := [some (.inr (.inr 103)), some (.inl i), some (.inl a), some (.inl b2), some (.inl c), some (.inl t), none, none]) (st' := [.inl 1, .inl 0, .inl t]) rfl ?_
      refine jw_W_call (as := [.inl t, .inl 0, .inl 1]) (rest := []) rfl rfl rfl rfl (Nat.le_of_ble_eq_true rfl) (.inl rfl) (jm_in (by unfold jw_rg; omega) (by unfold jw_rg; omega) (by unfold jw_rg; omega)) (by omega) ?_ rfl
      rintro r1 σz (⟨rfl, hs, q1⟩ | ⟨rfl, hs, q1⟩)
      · rw [hs]
        show jw_W (js_S n) _ md_323 12 [some (.inr (.inr 103)), some (.inl i), some (.inl a), some (.inl b2), some (.inl c), some (.inl t), none, none] [.inl 1] σ1 _
        refine jw_W_if rfl (by unfold jw_rg; omega) (fun hc3 => ?_) (fun hc3 => ?_)
        · clear hc3
          refine jw_W_n 2 (i' := 17) (ls' := [some (.inr (.inr 103)), some (.inl i), some (.inl a), some (.inl b2), some (.inl c), some (.inl t), none, none]) (st' := [.inr (.inr 103), .inl i]) rfl ?_
          refine jw_W_gf rfl rfl rfl ?_
          show jw_W (js_S n) _ md_323 18 [some (.inr (.inr 103)), some (.inl i), some (.inl a), some (.inl b2), some (.inl c), some (.inl t), none, none] [.inl (σ1 103 56), .inl i] σ1 _
          refine jw_W_ic rfl (by unfold jw_rg; omega) (by unfold jw_rg; omega) (fun hc4 => ?_) (fun hc4 => ?_)
          · have hc4 : i < (σ1 103 56) := hc4
            refine jw_W_n 4 (i' := 25) (ls' := [some (.inr (.inr 103)), some (.inl i), some (.inl a), some (.inl b2), some (.inl c), some (.inl t), some (.inl i), some (.inl 0)]) (st' := []) rfl ?_
            have hwk : jm_wok a b2 c := by
              rcases hu with hu | hu
              · exact hu.2
              · omega
            obtain ⟨hKN1, -, hw31, hG1, hct1, -, e135⟩ := jm_w142_all hKN hf1 hwk
            have e137 := hf1.1 137 (by omega)
            have hms := jn_ms_n (σ := σ1) (G := jm_gk σ1 (σ1 142) (σ1 103 4).toNat) (i := i) (by omega) (by omega)
            refine jw_W_mono (jm_walk_loop hKN1 hw31 (i := i) (by omega) (by omega) (by omega) 30 (k := 0) (x := i) (s := 0) rfl rfl (fun j hj => by omega) (by omega) (by omega)) ?_
            rintro r σ' ⟨v, rfl, hs, hv⟩
            rw [hs]
            rw [hG1, jn_wke_cg e103 e135 e137 hct1] at hv
            exact ⟨_, rfl, hz1, .inr ⟨⟨by omega, hwk, by omega⟩, .inr ⟨by omega, hv⟩⟩⟩
          · have hc4 : ¬ (i < (σ1 103 56)) := hc4
            refine jw_W_n 1 (i' := 20) (ls' := [some (.inr (.inr 103)), some (.inl i), some (.inl a), some (.inl b2), some (.inl c), some (.inl t), none, none]) (st' := [.inl ((-4))]) rfl ?_
            refine jw_W_ir rfl ?_
            have hwk : jm_wok a b2 c := by
              rcases hu with hu | hu
              · exact hu.2
              · omega
            exact ⟨_, rfl, hz1, .inr ⟨⟨by omega, hwk, by omega⟩, .inl ⟨rfl, by omega⟩⟩⟩
        · exact absurd hc3 (show ¬ ¬ ((1 : Int) ≠ 0) by omega)
      · rw [hs]
        show jw_W (js_S n) _ md_323 12 [some (.inr (.inr 103)), some (.inl i), some (.inl a), some (.inl b2), some (.inl c), some (.inl t), none, none] [.inl 0] σ1 _
        refine jw_W_if rfl (by unfold jw_rg; omega) (fun hc5 => ?_) (fun hc5 => ?_)
        · exact absurd hc5 (show ¬ ((0 : Int) ≠ 0) by omega)
        · clear hc5
          refine jw_W_n 1 (i' := 14) (ls' := [some (.inr (.inr 103)), some (.inl i), some (.inl a), some (.inl b2), some (.inl c), some (.inl t), none, none]) (st' := [.inl ((-1))]) rfl ?_
          refine jw_W_ir rfl ?_
          exact ⟨_, rfl, hz1, .inl ⟨rfl, fun hh => by obtain ⟨z1, z2, z3⟩ := hh; first | omega | (rcases hu with hu | hu; omega; exact absurd z2 hu.2)⟩⟩
theorem jn_chG {n : Nat} {σ : jw_H} {o : Nat} {C : List (ge_R × Int)} (h : jx_I0 n σ o C) {G : ge_D} (hGb : jx_Gb G) (hG : jx_G σ 100 0 = G) {i j : Int} (i0 : 0 ≤ i) (i1 : i < σ 103 56) (j0 : 0 ≤ j) (j1 : j < σ 103 56) : jw_T (js_S n) 2 64 [.inr (.inr 58), .inl i, .inl j, .inr (.inr 100), .inl 0] σ (fun r σ' => r = some (.inr (.inl (ge_f G (jm_ct σ j) * σ 135 i - ge_f G (jm_ct σ i) * σ 135 j))) ∧ σ' = σ) := by
  have hx := jx_I0_x h
  have hcb := hx.2.2.2.2.2.2.2.2.1
  have hcn := hcb.1
  have ei := (jx_I0_c h i0 i1).1
  have ej := (jx_I0_c h j0 j1).1
  have hz := jx_change (n := n) (σ := σ) (a := 100) (len := 3) (f := 0) (jx_pp_58 n) rfl (by omega) (by omega) (by omega) (i := i) (j := j) i0 (by omega) j0 (by omega) (by rw [hG]; exact hGb) (by rw [ei]; exact jx_ct_bd hcb i0 i1) (by rw [ej]; exact jx_ct_bd hcb j0 j1)
  rw [hG, ei, ej] at hz
  exact hz
theorem jx_bnb_loop {n : Nat} {σ : jw_H} {o : Nat} {C : List (ge_R × Int)} (hJ : jx_KJ n o C σ) {G : ge_D} (hGb : jx_Gb G) (hG : jx_G σ 100 0 = G) {i : Int} (i0 : 0 ≤ i) (i1 : i < σ 103 56) : ∀ (f : Nat) {b j : Int}, 0 ≤ j → j + f = σ 103 56 → (0 ≤ b ∧ b < σ 103 56) → b = jn_sf σ G i j.toNat → jw_W (js_S n) 2 md_17 4 [some (.inr (.inr 57)), some (.inl i), some (.inr (.inr 100)), some (.inl b), some (.inl j)] [] σ (fun r σ' => r = some (.inl (if jn_nb σ G i = i then -1 else jn_nb σ G i)) ∧ σ' = σ)
  | f, b, j, j0, hk, hb, H => by
    have ih : ∀ {b' : Int}, j < σ 103 56 → (0 ≤ b' ∧ b' < σ 103 56) → b' = jn_sf σ G i (j + 1).toNat → jw_W (js_S n) 2 md_17 4 [some (.inr (.inr 57)), some (.inl i), some (.inr (.inr 100)), some (.inl b'), some (.inl (j + 1))] [] σ (fun r σ' => r = some (.inl (if jn_nb σ G i = i then -1 else jn_nb σ G i)) ∧ σ' = σ) := by
      intro b' h1 h2 h3
      match f, hk with
      | 0, hk => omega
      | f + 1, hk => exact jx_bnb_loop hJ hGb hG i0 i1 f (by omega) (by omega) h2 h3
    have hI := hJ.1
    have hKN := hJ.2.1
    have hjd := hJ.2.2.2
    obtain ⟨hto, hfo, hp, hP, e0, e1, e2, hPm, hcb, c0, p0, -⟩ := jx_I0_x hI
    have ho := hp.1
    have hq := hP.1
    have hw := hP.2.1
    have hq2 := hP.2.2.1
    have hcn := hcb.1
    refine jw_W_n 2 (i' := 6) (ls' := [some (.inr (.inr 57)), some (.inl i), some (.inr (.inr 100)), some (.inl b), some (.inl j)]) (st' := [.inr (.inr 57), .inl j]) rfl ?_
    refine jw_W_gf rfl rfl rfl ?_
    show jw_W (js_S n) _ md_17 7 [some (.inr (.inr 57)), some (.inl i), some (.inr (.inr 100)), some (.inl b), some (.inl j)] [.inl (σ 57 0), .inl j] σ _
    refine jw_W_ic rfl (by unfold jw_rg; omega) (by unfold jw_rg; omega) (fun hc1 => ?_) (fun hc1 => ?_)
    · have hc1 : j ≥ (σ 57 0) := hc1
      refine jw_W_n 2 (i' := 32) (ls' := [some (.inr (.inr 57)), some (.inl i), some (.inr (.inr 100)), some (.inl b), some (.inl j)]) (st' := [.inl i, .inl b]) rfl ?_
      refine jw_W_ic rfl (by unfold jw_rg; omega) (by unfold jw_rg; omega) (fun hc2 => ?_) (fun hc2 => ?_)
      · have hc2 : b ≠ i := hc2
        refine jw_W_n 1 (i' := 36) (ls' := [some (.inr (.inr 57)), some (.inl i), some (.inr (.inr 100)), some (.inl b), some (.inl j)]) (st' := [.inl b]) rfl ?_
        refine jw_W_ir rfl ?_
        have hkl : j = σ 103 56 := by omega
        subst hkl
        have hnb : jn_nb σ G i = b := H.symm
        exact ⟨by rw [hnb, if_neg (by omega)], rfl⟩
      · have hc2 : b = i := Classical.not_not.mp hc2
        refine jw_W_n 2 (i' := 36) (ls' := [some (.inr (.inr 57)), some (.inl i), some (.inr (.inr 100)), some (.inl b), some (.inl j)]) (st' := [.inl ((-1))]) rfl ?_
        refine jw_W_ir rfl ?_
        have hkl : j = σ 103 56 := by omega
        subst hkl
        have hnb : jn_nb σ G i = b := H.symm
        exact ⟨by rw [hnb, if_pos (by omega)], rfl⟩
    · have hc1 : ¬ (j ≥ (σ 57 0)) := hc1
      refine jw_W_n 1 (i' := 9) (ls' := [some (.inr (.inr 57)), some (.inl i), some (.inr (.inr 100)), some (.inl b), some (.inl j)]) (st' := [.inr (.inr 57)]) rfl ?_
      refine jw_W_gf rfl rfl rfl ?_
      show jw_W (js_S n) _ md_17 10 [some (.inr (.inr 57)), some (.inl i), some (.inr (.inr 100)), some (.inl b), some (.inl j)] [.inr (.inr 66)] σ _
      refine jw_W_n 1 (i' := 11) (ls' := [some (.inr (.inr 57)), some (.inl i), some (.inr (.inr 100)), some (.inl b), some (.inl j)]) (st' := [.inl i, .inr (.inr 66)]) rfl ?_
      refine jw_W_aa rfl rfl (by omega) (by omega) (by omega) ?_
      show jw_W (js_S n) _ md_17 12 [some (.inr (.inr 57)), some (.inl i), some (.inr (.inr 100)), some (.inl b), some (.inl j)] [.inr (.inr (67 + (i).toNat))] σ _
      refine jw_W_n 1 (i' := 13) (ls' := [some (.inr (.inr 57)), some (.inl i), some (.inr (.inr 100)), some (.inl b), some (.inl j)]) (st' := [.inl j, .inr (.inr (67 + (i).toNat))]) rfl ?_
      refine jw_W_ia rfl (jx_lsh (by omega) (by omega)) (by omega) (by omega) (by omega) ?_
      show jw_W (js_S n) _ md_17 14 [some (.inr (.inr 57)), some (.inl i), some (.inr (.inr 100)), some (.inl b), some (.inl j)] [.inl (σ (67 + (i).toNat) j)] σ _
      have hlv := jx_lk_v hKN (i := i) (c := j) i0 i1 j0 (by omega) ((hjd i i0 i1).2.2 j j0 (by omega))
      have hlk := hlv.2.1
      have hlr := hlv.1
      refine jw_W_n 1 (i' := 15) (ls' := [some (.inr (.inr 57)), some (.inl i), some (.inr (.inr 100)), some (.inl b), some (.inl j)]) (st' := [.inl 1, .inl (σ (67 + (i).toNat) j)]) rfl ?_
      refine jw_W_ic rfl (by unfold jw_rg; omega) (by unfold jw_rg; omega) (fun hc3 => ?_) (fun hc3 => ?_)
      · have hc3 : (σ (67 + (i).toNat) j) < 1 := hc3
        refine jw_W_n 2 (i' := 4) (ls' := [some (.inr (.inr 57)), some (.inl i), some (.inr (.inr 100)), some (.inl b), some (.inl (j + 1))]) (st' := []) rfl ?_
        exact ih (by omega) (by omega) (jn_sf_no j0 H (fun hh => by first | (have := hlk.mpr hh.1; omega) | (have := hh.2; omega)))
      · have hc3 : ¬ ((σ (67 + (i).toNat) j) < 1) := hc3
        refine jw_W_n 1 (i' := 17) (ls' := [some (.inr (.inr 57)), some (.inl i), some (.inr (.inr 100)), some (.inl b), some (.inl j)]) (st' := [.inr (.inr 57)]) rfl ?_
        refine jw_W_gf rfl rfl rfl ?_
        show jw_W (js_S n) _ md_17 18 [some (.inr (.inr 57)), some (.inl i), some (.inr (.inr 100)), some (.inl b), some (.inl j)] [.inr (.inr 58)] σ _
        refine jw_W_n 4 (i' := 22) (ls' := [some (.inr (.inr 57)), some (.inl i), some (.inr (.inr 100)), some (.inl b), some (.inl j)]) (st' := [.inl 0, .inr (.inr 100), .inl j, .inl b, .inr (.inr 58)]) rfl ?_
        refine jw_W_call (as := [.inr (.inr 58), .inl b, .inl j, .inr (.inr 100), .inl 0]) (rest := []) rfl rfl rfl rfl (Nat.le_of_ble_eq_true rfl) (.inr rfl) (jn_chG hI hGb hG (by omega) (by omega) (by omega) (by omega)) (by omega) ?_ rfl
        rintro r1 σz ⟨rfl, hs⟩
        rw [hs]
        have f1 := jx_f_bd hGb (jx_ct_bd hcb (i := j) (by omega) (by omega))
        have f2 := jx_f_bd hGb (jx_ct_bd hcb (i := b) (by omega) (by omega))
        have d1 := jm_cw hcb (i := j) (by omega) (by omega)
        have d2 := jm_cw hcb (i := b) (by omega) (by omega)
        have d3 : σ 135 j ≤ 162 := (hcb.2 j (by omega) (by omega)).2
        have d4 : σ 135 b ≤ 162 := (hcb.2 b (by omega) (by omega)).2
        have m1 := jx_mfw (x := ge_f G (jm_ct σ j)) (y := σ 135 b) f1 (by omega)
        have m2 := jx_mfw (x := ge_f G (jm_ct σ b)) (y := σ 135 j) f2 (by omega)
        show jw_W (js_S n) _ md_17 23 [some (.inr (.inr 57)), some (.inl i), some (.inr (.inr 100)), some (.inl b), some (.inl j)] [.inr (.inl (ge_f G (jm_ct σ j) * σ 135 b - ge_f G (jm_ct σ b) * σ 135 j))] σ _
        refine jw_W_n 1 (i' := 24) (ls' := [some (.inr (.inr 57)), some (.inl i), some (.inr (.inr 100)), some (.inl b), some (.inl j)]) (st' := [.inr (.inl 0), .inr (.inl (ge_f G (jm_ct σ j) * σ 135 b - ge_f G (jm_ct σ b) * σ 135 j))]) rfl ?_
        refine jw_W_lc rfl rfl (by unfold jw_rgl; omega) (by unfold jw_rgl; omega) (fun hc4 => ?_) (fun hc4 => ?_)
        · have hc4 : (ge_f G (jm_ct σ j) * σ 135 b - ge_f G (jm_ct σ b) * σ 135 j) ≤ 0 := hc4
          refine jw_W_n 2 (i' := 4) (ls' := [some (.inr (.inr 57)), some (.inl i), some (.inr (.inr 100)), some (.inl b), some (.inl (j + 1))]) (st' := []) rfl ?_
          exact ih (by omega) (by omega) (jn_sf_no j0 H (fun hh => by first | (have := hlk.mpr hh.1; omega) | (have := hh.2; omega)))
        · have hc4 : ¬ ((ge_f G (jm_ct σ j) * σ 135 b - ge_f G (jm_ct σ b) * σ 135 j) ≤ 0) := hc4
          refine jw_W_n 4 (i' := 4) (ls' := [some (.inr (.inr 57)), some (.inl i), some (.inr (.inr 100)), some (.inl j), some (.inl (j + 1))]) (st' := []) rfl ?_
          exact ih (by omega) (by omega) (jn_sf_yes j0 H (hlk.mp (by omega)) (by omega))
theorem jx_bestNeighbour {n : Nat} {σ : jw_H} {o : Nat} {C : List (ge_R × Int)} (hJ : jx_KJ n o C σ) {G : ge_D} (hGb : jx_Gb G) (hG : jx_G σ 100 0 = G) {i : Int} (i0 : 0 ≤ i) (i1 : i < σ 103 56)  : jw_T (js_S n) 3 17 [.inr (.inr 57), .inl i, .inr (.inr 100)] σ (fun r σ' => r = some (.inl (if jn_nb σ G i = i then -1 else jn_nb σ G i)) ∧ σ' = σ) := by
  refine jw_T_of (D := 2) (M := mm_17) rfl (Nat.le_of_ble_eq_true rfl) (ls0 := [some (.inr (.inr 57)), some (.inl i), some (.inr (.inr 100)), none, none]) rfl ?_ (by rintro _ _ ⟨rfl, -⟩; rfl)
  have hI := hJ.1
  have hKN := hJ.2.1
  have hjd := hJ.2.2.2
  obtain ⟨hto, hfo, hp, hP, e0, e1, e2, hPm, hcb, c0, p0, -⟩ := jx_I0_x hI
  have ho := hp.1
  have hq := hP.1
  have hw := hP.2.1
  have hq2 := hP.2.2.1
  have hcn := hcb.1
  refine jw_W_n 4 (i' := 4) (ls' := [some (.inr (.inr 57)), some (.inl i), some (.inr (.inr 100)), some (.inl i), some (.inl 0)]) (st' := []) rfl ?_
  exact jx_bnb_loop hJ hGb hG i0 i1 (σ 103 56).toNat (b := i) (j := 0) (by omega) (by omega) (by omega) rfl
theorem jx_walk_loop {n : Nat} {σ : jw_H} {D : Nat} (hD : 4 ≤ D) {o : Nat} {C : List (ge_R × Int)} (hJ : jx_KJ n o C σ) {G : ge_D} (hGb : jx_Gb G) (hG : jx_G σ 100 0 = G) {i : Int} (i0 : 0 ≤ i) (i1 : i < σ 103 56) {a b2 c t : Int} (ht : t = 0 ∨ t = 1) : ∀ (f : Nat) {k : Nat} {x s y : Int}, x = jn_it σ G i k → s = (k : Int) → y = (if jn_nb σ G x = x then -1 else jn_nb σ G x) → (∀ j, j < k → jn_it σ G i (j + 1) ≠ jn_it σ G i j) → jn_ms σ G x < f → (k : Int) + jn_ms σ G x < σ 103 56 → jw_W (js_S n) D md_154 40 [some (.inr (.inr 13)), some (.inl i), some (.inl a), some (.inl b2), some (.inl c), some (.inl t), some (.inl x), some (.inl s), some (.inl y)] [] σ (fun r σ' => ∃ v, r = some (.inl v) ∧ σ' = σ ∧ jn_wke σ G i t v)
  | f, k, x, s, y, hx, hs2, hy, Hd, hf, hkn => by
    have hI := hJ.1
    have hKN := hJ.2.1
    have hjd := hJ.2.2.2
    obtain ⟨hto, hfo, hp, hP, e0, e1, e2, hPm, hcb, c0, p0, -⟩ := jx_I0_x hI
    have ho := hp.1
    have hq := hP.1
    have hw := hP.2.1
    have hq2 := hP.2.2.1
    have hcn := hcb.1
    have hx0 := jn_it_ok hcb i0 i1 k (G := G)
    rw [← hx] at hx0
    have hn0 := (jn_sf_ok (G := G) hcb hx0.1 hx0.2 (k := (σ 103 56).toNat) (by omega)).1
    have hn0 : 0 ≤ jn_nb σ G x ∧ jn_nb σ G x < σ 103 56 := hn0
    have hyr : -1 ≤ y ∧ y < σ 103 56 := by
      rw [hy]
      split <;> omega
    have hms := jn_ms_n (G := G) hx0.1 hx0.2
    have hmx : jn_nb σ G x ≠ x → 0 < jn_ms σ G x := by
      intro h1
      have e1 : jn_nb σ G x = jn_it σ G i (k + 1) := by rw [hx]; rfl
      have h2 : jn_it σ G i (k + 1) ≠ jn_it σ G i k := by rw [← e1, ← hx]; exact h1
      have h3 := jn_it_ms hcb i0 i1 h2
      rw [← e1, ← hx] at h3
      have := jn_ms_n (G := G) hn0.1 hn0.2
      omega
    have hsx : ¬ 0 ≤ y ∨ s < σ 57 0 := by
      by_cases hz : jn_nb σ G x = x
      · rw [if_pos hz] at hy
        omega
      · have := hmx hz
        omega
    have ih : jn_nb σ G x ≠ x → jw_W (js_S n) D md_154 40 [some (.inr (.inr 13)), some (.inl i), some (.inl a), some (.inl b2), some (.inl c), some (.inl t), some (.inl (jn_nb σ G x)), some (.inl (s + 1)), some (.inl (if jn_nb σ G (jn_nb σ G x) = (jn_nb σ G x) then -1 else jn_nb σ G (jn_nb σ G x)))] [] σ (fun r σ' => ∃ v, r = some (.inl v) ∧ σ' = σ ∧ jn_wke σ G i t v) := by
      intro h1
      have e1 : jn_nb σ G x = jn_it σ G i (k + 1) := by rw [hx]; rfl
      have h2 : jn_it σ G i (k + 1) ≠ jn_it σ G i k := by rw [← e1, ← hx]; exact h1
      have h3 := jn_it_ms hcb i0 i1 h2
      rw [← e1, ← hx] at h3
      match f, hf with
      | 0, hf => omega
      | f + 1, hf => exact jx_walk_loop hD hJ hGb hG i0 i1 ht f (k := k + 1) e1 (by omega) rfl (fun j hj => by
          by_cases ej : j = k
          · rw [ej]
            exact h2
          · exact Hd j (by omega)) (by omega) (by omega)
    refine jw_W_n 1 (i' := 41) (ls' := [some (.inr (.inr 13)), some (.inl i), some (.inl a), some (.inl b2), some (.inl c), some (.inl t), some (.inl x), some (.inl s), some (.inl y)]) (st' := [.inl y]) rfl ?_
    refine jw_W_if rfl (by unfold jw_rg; omega) (fun hc1 => ?_) (fun hc1 => ?_)
    · have hc1 : y < 0 := hc1
      refine jw_W_n 1 (i' := 59) (ls' := [some (.inr (.inr 13)), some (.inl i), some (.inl a), some (.inl b2), some (.inl c), some (.inl t), some (.inl x), some (.inl s), some (.inl y)]) (st' := [.inl t]) rfl ?_
      refine jw_W_if rfl (by unfold jw_rg; omega) (fun hc2 => ?_) (fun hc2 => ?_)
      · have hc2 : t ≠ 0 := hc2
        refine jw_W_n 1 (i' := 63) (ls' := [some (.inr (.inr 13)), some (.inl i), some (.inl a), some (.inl b2), some (.inl c), some (.inl t), some (.inl x), some (.inl s), some (.inl y)]) (st' := [.inl s]) rfl ?_
        refine jw_W_ir rfl ?_
        refine ⟨_, rfl, rfl, k, Hd, ?_, ?_⟩
        · show jn_nb σ _ (jn_it σ _ i k) = _
          rw [← hx]
          by_cases hz : jn_nb σ G x = x
          · exact hz
          · rw [if_neg hz] at hy
            omega
        · rw [if_neg (by omega), hs2]
      · have hc2 : t = 0 := Classical.not_not.mp hc2
        refine jw_W_n 2 (i' := 63) (ls' := [some (.inr (.inr 13)), some (.inl i), some (.inl a), some (.inl b2), some (.inl c), some (.inl t), some (.inl x), some (.inl s), some (.inl y)]) (st' := [.inl x]) rfl ?_
        refine jw_W_ir rfl ?_
        refine ⟨_, rfl, rfl, k, Hd, ?_, ?_⟩
        · show jn_nb σ _ (jn_it σ _ i k) = _
          rw [← hx]
          by_cases hz : jn_nb σ G x = x
          · exact hz
          · rw [if_neg hz] at hy
            omega
        · rw [if_pos (by omega), hx]
    · have hc1 : ¬ (y < 0) := hc1
      refine jw_W_n 2 (i' := 44) (ls' := [some (.inr (.inr 13)), some (.inl i), some (.inl a), some (.inl b2), some (.inl c), some (.inl t), some (.inl x), some (.inl s), some (.inl y)]) (st' := [.inr (.inr 13), .inl s]) rfl ?_
      refine jw_W_gf rfl rfl rfl ?_
      show jw_W (js_S n) _ md_154 45 [some (.inr (.inr 13)), some (.inl i), some (.inl a), some (.inl b2), some (.inl c), some (.inl t), some (.inl x), some (.inl s), some (.inl y)] [.inr (.inr 57), .inl s] σ _
      refine jw_W_gf rfl rfl rfl ?_
      show jw_W (js_S n) _ md_154 46 [some (.inr (.inr 13)), some (.inl i), some (.inl a), some (.inl b2), some (.inl c), some (.inl t), some (.inl x), some (.inl s), some (.inl y)] [.inl (σ 57 0), .inl s] σ _
      refine jw_W_ic rfl (by unfold jw_rg; omega) (by unfold jw_rg; omega) (fun hc3 => ?_) (fun hc3 => ?_)
      · have hc3 : s ≥ (σ 57 0) := hc3
        refine jw_W_n 1 (i' := 59) (ls' := [some (.inr (.inr 13)), some (.inl i), some (.inl a), some (.inl b2), some (.inl c), some (.inl t), some (.inl x), some (.inl s), some (.inl y)]) (st' := [.inl t]) rfl ?_
        refine jw_W_if rfl (by unfold jw_rg; omega) (fun hc4 => ?_) (fun hc4 => ?_)
        · have hc4 : t ≠ 0 := hc4
          refine jw_W_n 1 (i' := 63) (ls' := [some (.inr (.inr 13)), some (.inl i), some (.inl a), some (.inl b2), some (.inl c), some (.inl t), some (.inl x), some (.inl s), some (.inl y)]) (st' := [.inl s]) rfl ?_
          refine jw_W_ir rfl ?_
          refine ⟨_, rfl, rfl, k, Hd, ?_, ?_⟩
          · show jn_nb σ _ (jn_it σ _ i k) = _
            rw [← hx]
            by_cases hz : jn_nb σ G x = x
            · exact hz
            · rw [if_neg hz] at hy
              omega
          · rw [if_neg (by omega), hs2]
        · have hc4 : t = 0 := Classical.not_not.mp hc4
          refine jw_W_n 2 (i' := 63) (ls' := [some (.inr (.inr 13)), some (.inl i), some (.inl a), some (.inl b2), some (.inl c), some (.inl t), some (.inl x), some (.inl s), some (.inl y)]) (st' := [.inl x]) rfl ?_
          refine jw_W_ir rfl ?_
          refine ⟨_, rfl, rfl, k, Hd, ?_, ?_⟩
          · show jn_nb σ _ (jn_it σ _ i k) = _
            rw [← hx]
            by_cases hz : jn_nb σ G x = x
            · exact hz
            · rw [if_neg hz] at hy
              omega
          · rw [if_pos (by omega), hx]
      · have hc3 : ¬ (s ≥ (σ 57 0)) := hc3
        have hnx : jn_nb σ G x ≠ x := fun hh => by rw [if_pos hh] at hy; omega
        rw [if_neg hnx] at hy
        have ih2 := ih hnx
        rw [← hy] at hn0 ih2
        refine jw_W_n 4 (i' := 51) (ls' := [some (.inr (.inr 13)), some (.inl i), some (.inl a), some (.inl b2), some (.inl c), some (.inl t), some (.inl y), some (.inl (s + 1)), some (.inl y)]) (st' := [.inr (.inr 13)]) rfl ?_
        refine jw_W_gf rfl rfl rfl ?_
        show jw_W (js_S n) _ md_154 52 [some (.inr (.inr 13)), some (.inl i), some (.inl a), some (.inl b2), some (.inl c), some (.inl t), some (.inl y), some (.inl (s + 1)), some (.inl y)] [.inr (.inr 57)] σ _
        refine jw_W_n 2 (i' := 54) (ls' := [some (.inr (.inr 13)), some (.inl i), some (.inl a), some (.inl b2), some (.inl c), some (.inl t), some (.inl y), some (.inl (s + 1)), some (.inl y)]) (st' := [.inr (.inr 13), .inl y, .inr (.inr 57)]) rfl ?_
        refine jw_W_gf rfl rfl rfl ?_
        show jw_W (js_S n) _ md_154 55 [some (.inr (.inr 13)), some (.inl i), some (.inl a), some (.inl b2), some (.inl c), some (.inl t), some (.inl y), some (.inl (s + 1)), some (.inl y)] [.inr (.inr 100), .inl y, .inr (.inr 57)] σ _
        refine jw_W_call (as := [.inr (.inr 57), .inl y, .inr (.inr 100)]) (rest := []) rfl rfl rfl rfl (Nat.le_of_ble_eq_true rfl) (.inr rfl) (jx_bestNeighbour hJ hGb hG (i := y) (by omega) (by omega)) (by omega) ?_ rfl
        rintro r1 σz ⟨rfl, hs⟩
        rw [hs]
        show jw_W (js_S n) _ md_154 56 [some (.inr (.inr 13)), some (.inl i), some (.inl a), some (.inl b2), some (.inl c), some (.inl t), some (.inl y), some (.inl (s + 1)), some (.inl y)] [.inl (if jn_nb σ G y = y then -1 else jn_nb σ G y)] σ _
        refine jw_W_n 2 (i' := 40) (ls' := [some (.inr (.inr 13)), some (.inl i), some (.inl a), some (.inl b2), some (.inl c), some (.inl t), some (.inl y), some (.inl (s + 1)), some (.inl (if jn_nb σ G y = y then -1 else jn_nb σ G y))]) (st' := []) rfl ?_
        exact ih2
theorem jx_walk {n : Nat} {σ : jw_H} {o : Nat} {C : List (ge_R × Int)} (hK : jx_K n o C σ) {i a b2 c t : Int} (hi : jw_rg i) (ra : jw_rg a) (rb : jw_rg b2) (rc : jw_rg c) (ht : jw_rg t) : jw_T (js_S n) 9 154 [.inr (.inr 13), .inl i, .inl a, .inl b2, .inl c, .inl t] σ (fun r σ' => ∃ v, r = some (.inl v) ∧ jx_fx σ σ' ∧ jx_jj σ' ∧ jn_wka σ i a b2 c t v) := by
  refine jw_T_of (D := 8) (M := mm_154) rfl (Nat.le_of_ble_eq_true rfl) (ls0 := [some (.inr (.inr 13)), some (.inl i), some (.inl a), some (.inl b2), some (.inl c), some (.inl t), none, none, none]) rfl ?_ (by rintro _ _ ⟨_, rfl, -⟩; rfl)
  have hI := hK.1
  obtain ⟨hto, hfo, hp, hP, e0, e1, e2, hPm, hcb, c0, p0, -⟩ := jx_I0_x hI
  have ho := hp.1
  have hq := hP.1
  have hw := hP.2.1
  have hq2 := hP.2.2.1
  have hcn := hcb.1
  have rhi := hi
  unfold jw_rg at rhi
  have rht := ht
  unfold jw_rg at rht
  refine jw_W_n 1 (i' := 1) (ls' := [some (.inr (.inr 13)), some (.inl i), some (.inl a), some (.inl b2), some (.inl c), some (.inl t), none, none, none]) (st' := [.inl i]) rfl ?_
  refine jw_W_if rfl (by unfold jw_rg; omega) (fun hc1 => ?_) (fun hc1 => ?_)
  · have hc1 : i < 0 := hc1
    refine jw_W_n 1 (i' := 13) (ls' := [some (.inr (.inr 13)), some (.inl i), some (.inl a), some (.inl b2), some (.inl c), some (.inl t), none, none, none]) (st' := [.inl ((-1))]) rfl ?_
    refine jw_W_ir rfl ?_
    exact ⟨_, rfl, jx_fx_rf σ, hK.2.2, .inl ⟨rfl, fun hh => by obtain ⟨z1, z2, z3⟩ := hh; first | omega | exact absurd z2 (by assumption)⟩⟩
  · have hc1 : ¬ (i < 0) := hc1
    refine jw_W_n 4 (i' := 6) (ls' := [some (.inr (.inr 13)), some (.inl i), some (.inl a), some (.inl b2), some (.inl c), some (.inl t), none, none, none]) (st' := [.inl c, .inl b2, .inl a, .inr (.inr 13)]) rfl ?_
    refine jw_W_call (as := [.inr (.inr 13), .inl a, .inl b2, .inl c]) (rest := []) rfl rfl rfl rfl (Nat.le_of_ble_eq_true rfl) (.inr rfl) (jx_areWeights hK ra rb rc) (by omega) ?_ rfl
    rintro r1 σz (⟨rfl, hs, q2⟩ | ⟨rfl, hs, q2⟩)
    · rw [hs]
      show jw_W (js_S n) _ md_154 7 [some (.inr (.inr 13)), some (.inl i), some (.inl a), some (.inl b2), some (.inl c), some (.inl t), none, none, none] [.inl 1] σ _
      refine jw_W_if rfl (by unfold jw_rg; omega) (fun hc2 => ?_) (fun hc2 => ?_)
      · exact absurd hc2 (show ¬ ((1 : Int) = 0) by omega)
      · clear hc2
        refine jw_W_n 2 (i' := 10) (ls' := [some (.inr (.inr 13)), some (.inl i), some (.inl a), some (.inl b2), some (.inl c), some (.inl t), none, none, none]) (st' := [.inl t, .inr (.inr 13)]) rfl ?_
        refine jw_W_call (as := [.inr (.inr 13), .inl t]) (rest := []) rfl rfl rfl rfl (Nat.le_of_ble_eq_true rfl) (.inr rfl) (jx_isPart hK ht) (by omega) ?_ rfl
        rintro r1 σz (⟨rfl, hs, q3⟩ | ⟨rfl, hs, q3⟩)
        · rw [hs]
          show jw_W (js_S n) _ md_154 11 [some (.inr (.inr 13)), some (.inl i), some (.inl a), some (.inl b2), some (.inl c), some (.inl t), none, none, none] [.inl 1] σ _
          refine jw_W_if rfl (by unfold jw_rg; omega) (fun hc3 => ?_) (fun hc3 => ?_)
          · clear hc3
            refine jw_W_n 2 (i' := 16) (ls' := [some (.inr (.inr 13)), some (.inl i), some (.inl a), some (.inl b2), some (.inl c), some (.inl t), none, none, none]) (st' := [.inr (.inr 13), .inl i]) rfl ?_
            refine jw_W_gf rfl rfl rfl ?_
            show jw_W (js_S n) _ md_154 17 [some (.inr (.inr 13)), some (.inl i), some (.inl a), some (.inl b2), some (.inl c), some (.inl t), none, none, none] [.inr (.inr 57), .inl i] σ _
            refine jw_W_gf rfl rfl rfl ?_
            show jw_W (js_S n) _ md_154 18 [some (.inr (.inr 13)), some (.inl i), some (.inl a), some (.inl b2), some (.inl c), some (.inl t), none, none, none] [.inl (σ 57 0), .inl i] σ _
            refine jw_W_ic rfl (by unfold jw_rg; omega) (by unfold jw_rg; omega) (fun hc4 => ?_) (fun hc4 => ?_)
            · have hc4 : i < (σ 57 0) := hc4
              refine jw_W_n 4 (i' := 25) (ls' := [some (.inr (.inr 13)), some (.inl i), some (.inl a), some (.inl b2), some (.inl c), some (.inl t), none, none, none]) (st' := [.inl c, .inl b2, .inl a, .inr (.inr 13)]) rfl ?_
              refine jw_W_call (as := [.inr (.inr 13), .inl a, .inl b2, .inl c]) (rest := []) rfl rfl rfl rfl (Nat.le_of_ble_eq_true rfl) (.inr rfl) (jx_aim hK (by assumption)) (by omega) ?_ rfl
              rintro r1 σ1 ⟨rfl, hgl⟩
              have hf1 := jx_gl_y hgl
              have hK1 := jx_K_y hf1 hK
              have hI1 := hK1.1
              have hme1 := jx_fx_me (jx_fy_x hf1)
              have hwk : jm_wok a b2 c := by assumption
              have hGb := jm_gd3_Gb hPm hwk
              have eG : jx_G σ1 100 0 = jm_gd3 σ a b2 c := jx_gl_G hgl
              show jw_W (js_S n) _ md_154 26 [some (.inr (.inr 13)), some (.inl i), some (.inl a), some (.inl b2), some (.inl c), some (.inl t), none, none, none] [] σ1 _
              refine jw_W_n 1 (i' := 27) (ls' := [some (.inr (.inr 13)), some (.inl i), some (.inl a), some (.inl b2), some (.inl c), some (.inl t), none, none, none]) (st' := [.inr (.inr 13)]) rfl ?_
              refine jw_W_gf rfl rfl rfl ?_
              show jw_W (js_S n) _ md_154 28 [some (.inr (.inr 13)), some (.inl i), some (.inl a), some (.inl b2), some (.inl c), some (.inl t), none, none, none] [.inr (.inr 57)] σ1 _
              refine jw_W_call (as := [.inr (.inr 57)]) (rest := []) rfl rfl rfl rfl (Nat.le_of_ble_eq_true rfl) (.inr rfl) (jx_judge hI1 hK1.2.1 hK1.2.2) (by omega) ?_ rfl
              rintro r1 σ2 ⟨rfl, hfj, hj9, hjd2⟩
              have hfx : jx_fx σ σ2 := jx_fx_tr (jx_fy_x hf1) (jx_fj_x hfj)
              have hme2 := jx_fx_me hfx
              have hJ2 : jx_KJ n o C σ2 := ⟨jx_I0_fx (jx_fj_x hfj) hI1, jm_KN_me (jx_fx_me (jx_fj_x hfj)) hK1.2.1, hj9, hjd2⟩
              have eG2 : jx_G σ2 100 0 = jm_gd3 σ a b2 c := by rw [← eG]; unfold jx_G; rw [hfj.1 100 (by omega) (by omega)]
              have e56 : σ2 103 56 = σ 103 56 := by rw [hme2 103 (by omega)]
              show jw_W (js_S n) _ md_154 29 [some (.inr (.inr 13)), some (.inl i), some (.inl a), some (.inl b2), some (.inl c), some (.inl t), none, none, none] [] σ2 _
              refine jw_W_n 5 (i' := 34) (ls' := [some (.inr (.inr 13)), some (.inl i), some (.inl a), some (.inl b2), some (.inl c), some (.inl t), some (.inl i), some (.inl 0), none]) (st' := [.inr (.inr 13)]) rfl ?_
              refine jw_W_gf rfl rfl rfl ?_
              show jw_W (js_S n) _ md_154 35 [some (.inr (.inr 13)), some (.inl i), some (.inl a), some (.inl b2), some (.inl c), some (.inl t), some (.inl i), some (.inl 0), none] [.inr (.inr 57)] σ2 _
              refine jw_W_n 2 (i' := 37) (ls' := [some (.inr (.inr 13)), some (.inl i), some (.inl a), some (.inl b2), some (.inl c), some (.inl t), some (.inl i), some (.inl 0), none]) (st' := [.inr (.inr 13), .inl i, .inr (.inr 57)]) rfl ?_
              refine jw_W_gf rfl rfl rfl ?_
              show jw_W (js_S n) _ md_154 38 [some (.inr (.inr 13)), some (.inl i), some (.inl a), some (.inl b2), some (.inl c), some (.inl t), some (.inl i), some (.inl 0), none] [.inr (.inr 100), .inl i, .inr (.inr 57)] σ2 _
              refine jw_W_call (as := [.inr (.inr 57), .inl i, .inr (.inr 100)]) (rest := []) rfl rfl rfl rfl (Nat.le_of_ble_eq_true rfl) (.inr rfl) (jx_bestNeighbour hJ2 hGb eG2 (i := i) (by omega) (by omega)) (by omega) ?_ rfl
              rintro r1 σz ⟨rfl, hs⟩
              rw [hs]
              show jw_W (js_S n) _ md_154 39 [some (.inr (.inr 13)), some (.inl i), some (.inl a), some (.inl b2), some (.inl c), some (.inl t), some (.inl i), some (.inl 0), none] [.inl (if jn_nb σ2 (jm_gd3 σ a b2 c) i = i then -1 else jn_nb σ2 (jm_gd3 σ a b2 c) i)] σ2 _
              refine jw_W_n 1 (i' := 40) (ls' := [some (.inr (.inr 13)), some (.inl i), some (.inl a), some (.inl b2), some (.inl c), some (.inl t), some (.inl i), some (.inl 0), some (.inl (if jn_nb σ2 (jm_gd3 σ a b2 c) i = i then -1 else jn_nb σ2 (jm_gd3 σ a b2 c) i))]) (st' := []) rfl ?_
              have hms := jn_ms_n (σ := σ2) (G := jm_gd3 σ a b2 c) (i := i) (by omega) (by omega)
              have hcn2 := (jx_I0_x hJ2.1).2.2.2.2.2.2.2.2.1.1
              refine jw_W_mono (jx_walk_loop (D := 8) (by omega) hJ2 hGb eG2 (i := i) (by omega) (by omega) (by omega) 30 (k := 0) (x := i) (s := 0) rfl rfl rfl (fun j hj => by omega) (by omega) (by omega)) ?_
              rintro r σ' ⟨v, rfl, hs, hv⟩
              rw [hs]
              exact ⟨_, rfl, hfx, .inr ⟨hj9, hjd2⟩, .inr ⟨⟨by omega, hwk, by omega⟩, .inr ⟨by omega, (jn_wke_me hme2 _ _ _ _).mp hv⟩⟩⟩
            · have hc4 : ¬ (i < (σ 57 0)) := hc4
              refine jw_W_n 1 (i' := 20) (ls' := [some (.inr (.inr 13)), some (.inl i), some (.inl a), some (.inl b2), some (.inl c), some (.inl t), none, none, none]) (st' := [.inl ((-4))]) rfl ?_
              refine jw_W_ir rfl ?_
              exact ⟨_, rfl, jx_fx_rf σ, hK.2.2, .inr ⟨⟨by omega, by assumption, by omega⟩, .inl ⟨rfl, by omega⟩⟩⟩
          · exact absurd hc3 (show ¬ ¬ ((1 : Int) ≠ 0) by omega)
        · rw [hs]
          show jw_W (js_S n) _ md_154 11 [some (.inr (.inr 13)), some (.inl i), some (.inl a), some (.inl b2), some (.inl c), some (.inl t), none, none, none] [.inl 0] σ _
          refine jw_W_if rfl (by unfold jw_rg; omega) (fun hc5 => ?_) (fun hc5 => ?_)
          · exact absurd hc5 (show ¬ ((0 : Int) ≠ 0) by omega)
          · clear hc5
            refine jw_W_n 1 (i' := 13) (ls' := [some (.inr (.inr 13)), some (.inl i), some (.inl a), some (.inl b2), some (.inl c), some (.inl t), none, none, none]) (st' := [.inl ((-1))]) rfl ?_
            refine jw_W_ir rfl ?_
            exact ⟨_, rfl, jx_fx_rf σ, hK.2.2, .inl ⟨rfl, fun hh => by obtain ⟨z1, z2, z3⟩ := hh; first | omega | exact absurd z2 (by assumption)⟩⟩
    · rw [hs]
      show jw_W (js_S n) _ md_154 7 [some (.inr (.inr 13)), some (.inl i), some (.inl a), some (.inl b2), some (.inl c), some (.inl t), none, none, none] [.inl 0] σ _
      refine jw_W_if rfl (by unfold jw_rg; omega) (fun hc6 => ?_) (fun hc6 => ?_)
      · clear hc6
        refine jw_W_n 1 (i' := 13) (ls' := [some (.inr (.inr 13)), some (.inl i), some (.inl a), some (.inl b2), some (.inl c), some (.inl t), none, none, none]) (st' := [.inl ((-1))]) rfl ?_
        refine jw_W_ir rfl ?_
        exact ⟨_, rfl, jx_fx_rf σ, hK.2.2, .inl ⟨rfl, fun hh => by obtain ⟨z1, z2, z3⟩ := hh; first | omega | exact absurd z2 (by assumption)⟩⟩
      · exact absurd hc6 (show ¬ ¬ ((0 : Int) = 0) by omega)

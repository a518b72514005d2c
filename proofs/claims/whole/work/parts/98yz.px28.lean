/-! ===== ways from corner to corner: class and reference ===== -/
/-- come to by so many edges at most -/
def jx_by (σ : jw_H) (ob : Nat) (i : Int) : Nat → Int → Prop
  | 0, c => c = i
  | k + 1, c => jx_by σ ob i k c ∨ ∃ b, jx_by σ ob i k b ∧ jm_nx σ ob b c ∧ 0 ≤ c
/-- by just so many -/
def jx_xd (σ : jw_H) (ob : Nat) (i : Int) (d : Nat) (c : Int) : Prop := jx_by σ ob i d c ∧ ∀ m, m < d → ¬ jx_by σ ob i m c
def jx_ob (ob : Nat) : Prop := ob = 137 ∨ ob = 138
theorem jx_nx_in {σ : jw_H} {C : List (ge_R × Int)} (hK : jm_KN σ C) {ob : Nat} (ho : jx_ob ob) {a c : Int} (a0 : 0 ≤ a) (a1 : a < σ 103 56) (c0 : 0 ≤ c) (h : jm_nx σ ob a c) : c < σ 103 56 := by
  rcases ho with rfl | rfl
  · exact ((jx_nx1 hK a0 a1 c0).mp h).1
  · exact ((jx_nx2 hK a0 a1 c0).mp h).1
theorem jx_nx_sy {σ : jw_H} {C : List (ge_R × Int)} (hK : jm_KN σ C) {ob : Nat} (ho : jx_ob ob) {a c : Int} (a0 : 0 ≤ a) (a1 : a < σ 103 56) (c0 : 0 ≤ c) (h : jm_nx σ ob a c) : jm_nx σ ob c a := by
  rcases ho with rfl | rfl
  · have := (jx_nx1 hK a0 a1 c0).mp h
    exact (jx_nx1 hK c0 this.1 a0).mpr ⟨a1, fun e => this.2.1 e.symm, jm_E1_sy this.2.2⟩
  · have := (jx_nx2 hK a0 a1 c0).mp h
    exact (jx_nx2 hK c0 this.1 a0).mpr ⟨a1, fun e => this.2.1 e.symm, jm_E2_sy this.2.2⟩
section RC
variable {σ : jw_H} {C : List (ge_R × Int)} {ob : Nat} {i : Int}
theorem jx_by_in (hK : jm_KN σ C) (ho : jx_ob ob) (i0 : 0 ≤ i) (i1 : i < σ 103 56) : ∀ {k : Nat} {c : Int}, jx_by σ ob i k c → 0 ≤ c ∧ c < σ 103 56
  | 0, c, h => by
    rw [show c = i from h]
    exact ⟨i0, i1⟩
  | k + 1, c, h => by
    rcases h with h | ⟨b, h1, h2, h3⟩
    · exact jx_by_in hK ho i0 i1 h
    · have := jx_by_in hK ho i0 i1 h1
      exact ⟨h3, jx_nx_in hK ho this.1 this.2 h3 h2⟩
theorem jx_by_up : ∀ {k m : Nat} {c : Int}, k ≤ m → jx_by σ ob i k c → jx_by σ ob i m c
  | k, 0, c, h, hc => by
    rw [show k = 0 by omega] at hc
    exact hc
  | k, m + 1, c, h, hc => by
    by_cases e : k = m + 1
    · rw [← e]
      exact hc
    · exact .inl (jx_by_up (show k ≤ m by omega) hc)
theorem jx_by_xd : ∀ {k : Nat} {c : Int}, jx_by σ ob i k c → ∃ d, d ≤ k ∧ jx_xd σ ob i d c
  | 0, c, h => ⟨0, by omega, h, fun m hm => by omega⟩
  | k + 1, c, h => by
    by_cases e : jx_by σ ob i k c
    · obtain ⟨d, h1, h2⟩ := jx_by_xd e
      exact ⟨d, by omega, h2⟩
    · exact ⟨k + 1, by omega, h, fun m hm hh => e (jx_by_up (show m ≤ k by omega) hh)⟩
theorem jx_xd_uq {d e : Nat} {c : Int} (h1 : jx_xd σ ob i d c) (h2 : jx_xd σ ob i e c) : d = e := by
  by_cases a : d < e
  · exact absurd h1.1 (h2.2 d a)
  · by_cases b : e < d
    · exact absurd h2.1 (h1.2 e b)
    · omega
theorem jx_xd_pre {d : Nat} {c : Int} (h : jx_xd σ ob i (d + 1) c) : ∃ b, jx_xd σ ob i d b ∧ jm_nx σ ob b c := by
  obtain ⟨h1, h2⟩ := h
  rcases h1 with h1 | ⟨b, h3, h4, h5⟩
  · exact absurd h1 (h2 d (by omega))
  · refine ⟨b, ⟨h3, fun m hm hh => h2 (m + 1) (by omega) (.inr ⟨b, hh, h4, h5⟩)⟩, h4⟩
theorem jx_xd_dn : ∀ {d : Nat} {c : Int}, jx_xd σ ob i d c → ∀ m, m ≤ d → ∃ b, jx_xd σ ob i m b
  | 0, c, h, m, hm => by
    rw [show m = 0 by omega]
    exact ⟨c, h⟩
  | d + 1, c, h, m, hm => by
    by_cases e : m = d + 1
    · rw [e]
      exact ⟨c, h⟩
    · obtain ⟨b, h1, -⟩ := jx_xd_pre h
      exact jx_xd_dn h1 m (by omega)
/-- no way is longer than there are corners -/
theorem jx_xd_lt (hK : jm_KN σ C) (ho : jx_ob ob) (i0 : 0 ≤ i) (i1 : i < σ 103 56) {d : Nat} {c : Int} (h : jx_xd σ ob i d c) : (d : Int) < σ 103 56 := by
  have := ge_pig (α := Nat) (fun a b => a = b) ((List.range (σ 103 56).toNat).map (fun (c : Nat) => fun s => jx_xd σ ob i s (c : Int))) (List.range (d + 1)) List.nodup_range (fun s hs => by
    rw [List.mem_range] at hs
    obtain ⟨b, hb⟩ := jx_xd_dn h s (by omega)
    have hbn := jx_by_in hK ho i0 i1 hb.1
    refine ⟨_, List.mem_map.mpr ⟨b.toNat, List.mem_range.mpr (by omega), rfl⟩, ?_⟩
    rw [Int.toNat_of_nonneg hbn.1]
    exact hb) (fun q hq a _ b _ h1 h2 => by
    obtain ⟨c, -, rfl⟩ := List.mem_map.mp hq
    exact jx_xd_uq h1 h2)
  rw [List.length_range, List.length_map, List.length_range] at this
  omega
theorem jx_by_n (hK : jm_KN σ C) (ho : jx_ob ob) (i0 : 0 ≤ i) (i1 : i < σ 103 56) {c : Int} (hn : ¬ jx_by σ ob i (σ 103 56).toNat c) (k : Nat) : ¬ jx_by σ ob i k c := by
  intro h
  obtain ⟨d, -, h2⟩ := jx_by_xd h
  have := jx_xd_lt hK ho i0 i1 h2
  exact hn (jx_by_up (by omega) h2.1)
theorem jx_by_sy (hK : jm_KN σ C) (ho : jx_ob ob) (i0 : 0 ≤ i) (i1 : i < σ 103 56) : ∀ {k : Nat} {c : Int}, jx_by σ ob i k c → jx_by σ ob c k i := by
  -- a first step laid ahead
  have ahead : ∀ {k : Nat} {a b c : Int}, 0 ≤ a → a < σ 103 56 → 0 ≤ b → jm_nx σ ob a b → jx_by σ ob b k c → jx_by σ ob a (k + 1) c := by
    intro k
    induction k with
    | zero =>
      intro a b c a0 a1 b0 hab hc
      rw [show c = b from hc]
      exact .inr ⟨a, rfl, hab, b0⟩
    | succ k ih =>
      intro a b c a0 a1 b0 hab hc
      rcases hc with hc | ⟨e, h1, h2, h3⟩
      · exact .inl (ih a0 a1 b0 hab hc)
      · exact .inr ⟨e, ih a0 a1 b0 hab h1, h2, h3⟩
  intro k
  induction k with
  | zero =>
    intro c h
    exact (show c = i from h).symm
  | succ k ih =>
    intro c h
    rcases h with h | ⟨b, h1, h2, h3⟩
    · exact .inl (ih h)
    · have hb := jx_by_in hK ho i0 i1 h1
      have hc := jx_nx_in hK ho hb.1 hb.2 h3 h2
      exact ahead h3 hc hb.1 (jx_nx_sy hK ho hb.1 hb.2 h3 h2) (ih h1)
end RC
/-- by how many edges; none -/
def jx_ds (σ : jw_H) (ob : Nat) (i c v no : Int) : Prop := (∃ d : Nat, v = (d : Int) ∧ jx_xd σ ob i d c) ∨ (v = no ∧ ∀ k, ¬ jx_by σ ob i k c)
theorem jx_lk_l {σ : jw_H} {C : List (ge_R × Int)} (h : jm_KN σ C) {ob : Nat} {l : Int} (hl : (l = 1 ∧ ob = 137) ∨ (l = 2 ∧ ob = 138)) {i c v : Int} (i0 : 0 ≤ i) (i1 : i < σ 103 56) (c0 : 0 ≤ c) (c1 : c < σ 103 56) (hv : jx_lk σ i c v) : (0 ≤ v ∧ v ≤ 2) ∧ (l ≤ v ↔ jm_nx σ ob i c) := by
  have := jx_lk_v h i0 i1 c0 c1 hv
  rcases hl with ⟨rfl, rfl⟩ | ⟨rfl, rfl⟩
  · exact ⟨this.1, this.2.1⟩
  · exact ⟨this.1, this.2.2⟩
def jx_f65 (σ0 σ : jw_H) : Prop := ∀ c, c ≠ 65 → σ c = σ0 c
theorem jx_f65_y {σ0 σ : jw_H} (h : jx_f65 σ0 σ) : jx_fy σ0 σ := ⟨fun c _ h2 => h c (by omega), fun j _ => by rw [h 13 (by omega)]⟩
theorem jx_KJ_65 {n o : Nat} {C : List (ge_R × Int)} {σ0 σ : jw_H} (h : jx_f65 σ0 σ) (hJ : jx_KJ n o C σ0) : jx_KJ n o C σ := by
  have hx := jx_I0_x hJ.1
  have hy := jx_f65_y h
  exact ⟨jx_I0_fx (jx_fy_x hy) hJ.1, jm_KN_me (jx_fx_me (jx_fy_x hy)) hJ.2.1, by rw [h 57 (by omega)]; exact hJ.2.2.1, jx_jd_y hy hx.2.2.2.2.2.2.2.1 (by have := hx.2.2.2.2.2.2.2.2.1.1; omega) hJ.2.2.2⟩
/-- a step from a corner, so far -/
def jx_sf (σ0 : jw_H) (ob : Nat) (i s j : Int) (σ : jw_H) : Prop := jx_f65 σ0 σ ∧ ∀ c, 0 ≤ c → c < σ0 103 56 → ((c < j ∧ jm_nx σ0 ob i c ∧ σ0 65 c < 0) → σ 65 c = s + 1) ∧ (¬ (c < j ∧ jm_nx σ0 ob i c ∧ σ0 65 c < 0) → σ 65 c = σ0 65 c)
theorem jx_sf_no {σ0 σ : jw_H} {ob : Nat} {i s j : Int} (h : jx_sf σ0 ob i s j σ) (hn : ¬ (jm_nx σ0 ob i j ∧ σ0 65 j < 0)) : jx_sf σ0 ob i s (j + 1) σ := by
  refine ⟨h.1, fun c c0 c1 => ⟨fun hh => ?_, fun hh => ?_⟩⟩
  · by_cases e : c = j
    · rw [e] at hh
      exact absurd hh.2 hn
    · exact (h.2 c c0 c1).1 ⟨by omega, hh.2⟩
  · exact (h.2 c c0 c1).2 (fun h2 => hh ⟨by omega, h2.2⟩)
theorem jx_sf_yes {σ0 σ : jw_H} {ob : Nat} {i s j : Int} (h : jx_sf σ0 ob i s j σ) (hy : jm_nx σ0 ob i j ∧ σ0 65 j < 0) : jx_sf σ0 ob i s (j + 1) (jw_up σ 65 j (s + 1)) := by
  refine ⟨fun c hc => ?_, fun c c0 c1 => ?_⟩
  · rw [jw_up_out _ _ _ hc]
    exact h.1 c hc
  · by_cases e : c = j
    · rw [e, jw_up_eq]
      exact ⟨fun _ => rfl, fun hh => absurd ⟨by omega, hy⟩ hh⟩
    · rw [jw_up_ne _ (by omega)]
      exact ⟨fun hh => (h.2 c c0 c1).1 ⟨by omega, hh.2⟩, fun hh => (h.2 c c0 c1).2 (fun h2 => hh ⟨by omega, h2.2⟩)⟩
theorem jx_step_loop {n : Nat} {σ0 : jw_H} {o : Nat} {C : List (ge_R × Int)} (hJ0 : jx_KJ n o C σ0) {ob : Nat} {l : Int} (hl : (l = 1 ∧ ob = 137) ∨ (l = 2 ∧ ob = 138)) {i s : Int} (i0 : 0 ≤ i) (i1 : i < σ0 103 56) (hs0 : σ0 65 i = s) (s0 : 0 ≤ s) (s1 : s ≤ 20) (hrg : ∀ c, 0 ≤ c → c < σ0 103 56 → -1 ≤ σ0 65 c ∧ σ0 65 c ≤ 21) : ∀ (f : Nat) {σ : jw_H} {j : Int}, 0 ≤ j → j + f = σ0 103 56 → jx_sf σ0 ob i s j σ → jw_W (js_S n) 0 md_30 2 [some (.inr (.inr 57)), some (.inl i), some (.inl l), some (.inl j)] [] σ (fun r σ' => r = none ∧ jx_sf σ0 ob i s (σ0 103 56) σ')
  | f, σ, j, j0, hk, H => by
    have ih : ∀ {σ' : jw_H}, j < σ0 103 56 → jx_sf σ0 ob i s (j + 1) σ' → jw_W (js_S n) 0 md_30 2 [some (.inr (.inr 57)), some (.inl i), some (.inl l), some (.inl (j + 1))] [] σ' (fun r σ' => r = none ∧ jx_sf σ0 ob i s (σ0 103 56) σ') := by
      intro σ' h1 h2
      match f, hk with
      | 0, hk => omega
      | f + 1, hk => exact jx_step_loop hJ0 hl i0 i1 hs0 s0 s1 hrg f (by omega) (by omega) h2
    have hKN0 := hJ0.2.1
    have hjd0 := hJ0.2.2.2
    have hJ := jx_KJ_65 H.1 hJ0
    have e56 : σ 103 56 = σ0 103 56 := by rw [H.1 103 (by omega)]
    have hI := hJ.1
    have hKN := hJ.2.1
    have hjd := hJ.2.2.2
    obtain ⟨hto, hfo, hp, hP, e0, e1, e2, hPm, hcb, c0, p0, -⟩ := jx_I0_x hI
    have ho := hp.1
    have hq := hP.1
    have hw := hP.2.1
    have hq2 := hP.2.2.1
    have hcn := hcb.1
    refine jw_W_n 2 (i' := 4) (ls' := [some (.inr (.inr 57)), some (.inl i), some (.inl l), some (.inl j)]) (st' := [.inr (.inr 57), .inl j]) rfl ?_
    refine jw_W_gf rfl rfl rfl ?_
    show jw_W (js_S n) _ md_30 5 [some (.inr (.inr 57)), some (.inl i), some (.inl l), some (.inl j)] [.inl (σ 57 0), .inl j] σ _
    refine jw_W_ic rfl (by unfold jw_rg; omega) (by unfold jw_rg; omega) (fun hc1 => ?_) (fun hc1 => ?_)
    · have hc1 : j ≥ (σ 57 0) := hc1
      refine jw_W_re rfl ?_
      have hkl : j = σ0 103 56 := by omega
      subst hkl
      exact ⟨rfl, H⟩
    · have hc1 : ¬ (j ≥ (σ 57 0)) := hc1
      have hlv := jx_lk_l hKN0 hl i0 i1 j0 (show j < σ0 103 56 by omega) (hjd0 i i0 i1 |>.2.2 j j0 (by omega))
      have hrow : σ (67 + i.toNat) = σ0 (67 + i.toNat) := H.1 _ (by omega)
      rw [← hrow] at hlv
      have hsj := H.2 j j0 (by omega)
      have hsi : σ 65 i = s := ((H.2 i i0 i1).2 (fun h9 => by omega)).trans hs0
      have hjr := hrg j j0 (by omega)
      refine jw_W_n 1 (i' := 7) (ls' := [some (.inr (.inr 57)), some (.inl i), some (.inl l), some (.inl j)]) (st' := [.inr (.inr 57)]) rfl ?_
      refine jw_W_gf rfl rfl rfl ?_
      show jw_W (js_S n) _ md_30 8 [some (.inr (.inr 57)), some (.inl i), some (.inl l), some (.inl j)] [.inr (.inr 66)] σ _
      refine jw_W_n 1 (i' := 9) (ls' := [some (.inr (.inr 57)), some (.inl i), some (.inl l), some (.inl j)]) (st' := [.inl i, .inr (.inr 66)]) rfl ?_
      refine jw_W_aa rfl rfl (by omega) (by omega) (by omega) ?_
      show jw_W (js_S n) _ md_30 10 [some (.inr (.inr 57)), some (.inl i), some (.inl l), some (.inl j)] [.inr (.inr (67 + (i).toNat))] σ _
      refine jw_W_n 1 (i' := 11) (ls' := [some (.inr (.inr 57)), some (.inl i), some (.inl l), some (.inl j)]) (st' := [.inl j, .inr (.inr (67 + (i).toNat))]) rfl ?_
      refine jw_W_ia rfl (jx_lsh (by omega) (by omega)) (by omega) (by omega) (by omega) ?_
      show jw_W (js_S n) _ md_30 12 [some (.inr (.inr 57)), some (.inl i), some (.inl l), some (.inl j)] [.inl (σ (67 + (i).toNat) j)] σ _
      refine jw_W_n 1 (i' := 13) (ls' := [some (.inr (.inr 57)), some (.inl i), some (.inl l), some (.inl j)]) (st' := [.inl l, .inl (σ (67 + (i).toNat) j)]) rfl ?_
      refine jw_W_ic rfl (by unfold jw_rg; omega) (by unfold jw_rg; omega) (fun hc2 => ?_) (fun hc2 => ?_)
      · have hc2 : (σ (67 + (i).toNat) j) < l := hc2
        refine jw_W_n 2 (i' := 2) (ls' := [some (.inr (.inr 57)), some (.inl i), some (.inl l), some (.inl (j + 1))]) (st' := []) rfl ?_
        exact ih (by omega) (jx_sf_no H (fun hh => by first | exact absurd (hlv.2.mpr hh.1) (by omega) | (have := hsj.2 (fun h9 => by omega); omega)))
      · have hc2 : ¬ ((σ (67 + (i).toNat) j) < l) := hc2
        refine jw_W_n 1 (i' := 15) (ls' := [some (.inr (.inr 57)), some (.inl i), some (.inl l), some (.inl j)]) (st' := [.inr (.inr 57)]) rfl ?_
        refine jw_W_gf rfl rfl rfl ?_
        show jw_W (js_S n) _ md_30 16 [some (.inr (.inr 57)), some (.inl i), some (.inl l), some (.inl j)] [.inr (.inr 65)] σ _
        refine jw_W_n 1 (i' := 17) (ls' := [some (.inr (.inr 57)), some (.inl i), some (.inl l), some (.inl j)]) (st' := [.inl j, .inr (.inr 65)]) rfl ?_
        refine jw_W_ia rfl rfl (by omega) (by omega) (by omega) ?_
        show jw_W (js_S n) _ md_30 18 [some (.inr (.inr 57)), some (.inl i), some (.inl l), some (.inl j)] [.inl (σ 65 j)] σ _
        refine jw_W_if rfl (by unfold jw_rg; omega) (fun hc3 => ?_) (fun hc3 => ?_)
        · have hc3 : (σ 65 j) ≥ 0 := hc3
          refine jw_W_n 2 (i' := 2) (ls' := [some (.inr (.inr 57)), some (.inl i), some (.inl l), some (.inl (j + 1))]) (st' := []) rfl ?_
          exact ih (by omega) (jx_sf_no H (fun hh => by first | exact absurd (hlv.2.mpr hh.1) (by omega) | (have := hsj.2 (fun h9 => by omega); omega)))
        · have hc3 : ¬ ((σ 65 j) ≥ 0) := hc3
          refine jw_W_n 1 (i' := 20) (ls' := [some (.inr (.inr 57)), some (.inl i), some (.inl l), some (.inl j)]) (st' := [.inr (.inr 57)]) rfl ?_
          refine jw_W_gf rfl rfl rfl ?_
          show jw_W (js_S n) _ md_30 21 [some (.inr (.inr 57)), some (.inl i), some (.inl l), some (.inl j)] [.inr (.inr 65)] σ _
          refine jw_W_n 2 (i' := 23) (ls' := [some (.inr (.inr 57)), some (.inl i), some (.inl l), some (.inl j)]) (st' := [.inr (.inr 57), .inl j, .inr (.inr 65)]) rfl ?_
          refine jw_W_gf rfl rfl rfl ?_
          show jw_W (js_S n) _ md_30 24 [some (.inr (.inr 57)), some (.inl i), some (.inl l), some (.inl j)] [.inr (.inr 65), .inl j, .inr (.inr 65)] σ _
          refine jw_W_n 1 (i' := 25) (ls' := [some (.inr (.inr 57)), some (.inl i), some (.inl l), some (.inl j)]) (st' := [.inl i, .inr (.inr 65), .inl j, .inr (.inr 65)]) rfl ?_
          refine jw_W_ia rfl rfl (by omega) (by omega) (by omega) ?_
          show jw_W (js_S n) _ md_30 26 [some (.inr (.inr 57)), some (.inl i), some (.inl l), some (.inl j)] [.inl (σ 65 i), .inl j, .inr (.inr 65)] σ _
          refine jw_W_n 2 (i' := 28) (ls' := [some (.inr (.inr 57)), some (.inl i), some (.inl l), some (.inl j)]) (st' := [.inl (σ 65 i + 1), .inl j, .inr (.inr 65)]) rfl ?_
          refine jw_W_is rfl (by omega) rfl (by omega) (by omega) (by omega) ?_
          refine jw_W_n 2 (i' := 2) (ls' := [some (.inr (.inr 57)), some (.inl i), some (.inl l), some (.inl (j + 1))]) (st' := []) rfl ?_
          rw [hsi]
          exact ih (by omega) (jx_sf_yes H ⟨hlv.2.mp (by omega), by have := hsj.2 (fun h9 => by omega); omega⟩)
theorem jx_stepFrom {n : Nat} {σ : jw_H} {o : Nat} {C : List (ge_R × Int)} (hJ : jx_KJ n o C σ) {ob : Nat} {l : Int} (hl : (l = 1 ∧ ob = 137) ∨ (l = 2 ∧ ob = 138)) {i s : Int} (i0 : 0 ≤ i) (i1 : i < σ 103 56) (hs0 : σ 65 i = s) (s0 : 0 ≤ s) (s1 : s ≤ 20) (hrg : ∀ c, 0 ≤ c → c < σ 103 56 → -1 ≤ σ 65 c ∧ σ 65 c ≤ 21) : jw_T (js_S n) 1 30 [.inr (.inr 57), .inl i, .inl l] σ (fun r σ' => r = none ∧ jx_sf σ ob i s (σ 103 56) σ') := by
  refine jw_T_of (D := 0) (M := mm_30) rfl (Nat.le_of_ble_eq_true rfl) (ls0 := [some (.inr (.inr 57)), some (.inl i), some (.inl l), none]) rfl ?_ (by rintro _ _ ⟨rfl, -⟩; rfl)
  have hI := hJ.1
  have hKN := hJ.2.1
  have hjd := hJ.2.2.2
  obtain ⟨hto, hfo, hp, hP, e0, e1, e2, hPm, hcb, c0, p0, -⟩ := jx_I0_x hI
  have ho := hp.1
  have hq := hP.1
  have hw := hP.2.1
  have hq2 := hP.2.2.1
  have hcn := hcb.1
  refine jw_W_n 2 (i' := 2) (ls' := [some (.inr (.inr 57)), some (.inl i), some (.inl l), some (.inl 0)]) (st' := []) rfl ?_
  exact jx_step_loop hJ hl i0 i1 hs0 s0 s1 hrg (σ 103 56).toNat (j := 0) (by omega) (by omega) ⟨fun c _ => rfl, fun c c0 c1 => ⟨fun hh => by omega, fun _ => rfl⟩⟩
/-- the ways so far: by s edges at most -/
def jx_wf (σ0 : jw_H) (ob : Nat) (i : Int) (s : Nat) (σ : jw_H) : Prop := jx_f65 σ0 σ ∧ ∀ c, 0 ≤ c → c < σ0 103 56 → (jx_by σ0 ob i s c → ∃ d : Nat, d ≤ s ∧ σ 65 c = (d : Int) ∧ jx_xd σ0 ob i d c) ∧ (¬ jx_by σ0 ob i s c → σ 65 c = -1)
/-- amid a round -/
def jx_wg (σ0 : jw_H) (ob : Nat) (i : Int) (s : Nat) (j : Int) (σ : jw_H) : Prop := jx_f65 σ0 σ ∧ ∀ c, 0 ≤ c → c < σ0 103 56 → (jx_by σ0 ob i s c → ∃ d : Nat, d ≤ s ∧ σ 65 c = (d : Int) ∧ jx_xd σ0 ob i d c) ∧ (¬ jx_by σ0 ob i s c → ((∃ b, b < j ∧ jx_xd σ0 ob i s b ∧ jm_nx σ0 ob b c) → σ 65 c = (s : Int) + 1) ∧ (¬ (∃ b, b < j ∧ jx_xd σ0 ob i s b ∧ jm_nx σ0 ob b c) → σ 65 c = -1))
theorem jx_wf_g {σ0 σ : jw_H} {C : List (ge_R × Int)} (hK : jm_KN σ0 C) {ob : Nat} (ho : jx_ob ob) {i : Int} (i0 : 0 ≤ i) (i1 : i < σ0 103 56) {s : Nat} (h : jx_wf σ0 ob i s σ) : jx_wg σ0 ob i s 0 σ := by
  refine ⟨h.1, fun c c0 c1 => ⟨(h.2 c c0 c1).1, fun hn => ⟨?_, fun _ => (h.2 c c0 c1).2 hn⟩⟩⟩
  rintro ⟨b, hb, h1, -⟩
  have := (jx_by_in hK ho i0 i1 h1.1).1
  omega
theorem jx_wg_f {σ0 σ : jw_H} {C : List (ge_R × Int)} (hK : jm_KN σ0 C) {ob : Nat} (ho : jx_ob ob) {i : Int} (i0 : 0 ≤ i) (i1 : i < σ0 103 56) {s : Nat} (h : jx_wg σ0 ob i s (σ0 103 56) σ) : jx_wf σ0 ob i (s + 1) σ := by
  refine ⟨h.1, fun c c0 c1 => ?_⟩
  by_cases e : jx_by σ0 ob i s c
  · refine ⟨fun _ => ?_, fun hn => absurd (.inl e) hn⟩
    obtain ⟨d, h1, h2⟩ := (h.2 c c0 c1).1 e
    exact ⟨d, by omega, h2⟩
  · refine ⟨fun hr => ?_, fun hn => ?_⟩
    · have hx : jx_xd σ0 ob i (s + 1) c := ⟨hr, fun m hm hh => e (jx_by_up (show m ≤ s by omega) hh)⟩
      obtain ⟨b, h1, h2⟩ := jx_xd_pre hx
      have := ((h.2 c c0 c1).2 e).1 ⟨b, (jx_by_in hK ho i0 i1 h1.1).2, h1, h2⟩
      exact ⟨s + 1, by omega, by rw [this]; omega, hx⟩
    · refine ((h.2 c c0 c1).2 e).2 (fun hh => hn ?_)
      obtain ⟨b, -, h1, h2⟩ := hh
      exact .inr ⟨b, h1.1, h2, c0⟩
theorem jx_wg_rg {σ0 σ : jw_H} {C : List (ge_R × Int)} (hK : jm_KN σ0 C) {ob : Nat} {i : Int} {s : Nat} {j : Int} (hs : (s : Int) ≤ 20) (h : jx_wg σ0 ob i s j σ) {c : Int} (c0 : 0 ≤ c) (c1 : c < σ0 103 56) : -1 ≤ σ 65 c ∧ σ 65 c ≤ 21 := by
  by_cases e : jx_by σ0 ob i s c
  · obtain ⟨d, h1, h2, -⟩ := (h.2 c c0 c1).1 e
    omega
  · by_cases e2 : ∃ b, b < j ∧ jx_xd σ0 ob i s b ∧ jm_nx σ0 ob b c
    · rw [((h.2 c c0 c1).2 e).1 e2]
      omega
    · rw [((h.2 c c0 c1).2 e).2 e2]
      omega
theorem jx_wg_at {σ0 σ : jw_H} {ob : Nat} {i : Int} {s : Nat} {j : Int} (h : jx_wg σ0 ob i s j σ) {c : Int} (c0 : 0 ≤ c) (c1 : c < σ0 103 56) : σ 65 c = (s : Int) ↔ jx_xd σ0 ob i s c := by
  by_cases e : jx_by σ0 ob i s c
  · obtain ⟨d, h1, h2, h3⟩ := (h.2 c c0 c1).1 e
    constructor
    · intro h4
      rw [show s = d by omega]
      exact h3
    · intro h4
      rw [h2, jx_xd_uq h3 h4]
  · refine ⟨fun h4 => ?_, fun h4 => absurd h4.1 e⟩
    by_cases e2 : ∃ b, b < j ∧ jx_xd σ0 ob i s b ∧ jm_nx σ0 ob b c
    · rw [((h.2 c c0 c1).2 e).1 e2] at h4
      omega
    · rw [((h.2 c c0 c1).2 e).2 e2] at h4
      omega
theorem jx_wg_no {σ0 σ : jw_H} {ob : Nat} {i : Int} {s : Nat} {j : Int} (h : jx_wg σ0 ob i s j σ) (hn : ¬ jx_xd σ0 ob i s j) : jx_wg σ0 ob i s (j + 1) σ := by
  have e : ∀ c, (∃ b, b < j + 1 ∧ jx_xd σ0 ob i s b ∧ jm_nx σ0 ob b c) ↔ ∃ b, b < j ∧ jx_xd σ0 ob i s b ∧ jm_nx σ0 ob b c := fun c => by
    constructor
    · rintro ⟨b, h1, h2, h3⟩
      by_cases e : b = j
      · rw [e] at h2
        exact absurd h2 hn
      · exact ⟨b, by omega, h2, h3⟩
    · rintro ⟨b, h1, h2, h3⟩
      exact ⟨b, by omega, h2, h3⟩
  refine ⟨h.1, fun c c0 c1 => ⟨(h.2 c c0 c1).1, fun hh => ?_⟩⟩
  rw [e]
  exact (h.2 c c0 c1).2 hh
theorem jx_wg_yes {σ0 σ σ' : jw_H} {ob : Nat} {i : Int} {s : Nat} {j : Int} (h : jx_wg σ0 ob i s j σ) (e56 : σ 103 56 = σ0 103 56) (enx : ∀ c, jm_nx σ ob j c ↔ jm_nx σ0 ob j c) (hy : jx_xd σ0 ob i s j) (a : jx_sf σ ob j (s : Int) (σ 103 56) σ') : jx_wg σ0 ob i s (j + 1) σ' := by
  refine ⟨fun c hc => (a.1 c hc).trans (h.1 c hc), fun c c0 c1 => ?_⟩
  have ac := a.2 c c0 (by omega)
  rw [enx] at ac
  by_cases e : jx_by σ0 ob i s c
  · obtain ⟨d, h1, h2, h3⟩ := (h.2 c c0 c1).1 e
    refine ⟨fun _ => ⟨d, h1, ?_, h3⟩, fun hh => absurd e hh⟩
    rw [ac.2 (fun hh => by omega)]
    exact h2
  · refine ⟨fun hh => absurd hh e, fun _ => ?_⟩
    by_cases e2 : ∃ b, b < j ∧ jx_xd σ0 ob i s b ∧ jm_nx σ0 ob b c
    · have hv := ((h.2 c c0 c1).2 e).1 e2
      obtain ⟨b, b1, b2⟩ := e2
      refine ⟨fun _ => ?_, fun hh => absurd ⟨b, by omega, b2⟩ hh⟩
      rw [ac.2 (fun hh => by omega)]
      exact hv
    · have hv := ((h.2 c c0 c1).2 e).2 e2
      refine ⟨fun hh => ac.1 ⟨by omega, ?_, by omega⟩, fun hh => ?_⟩
      · obtain ⟨b, b1, b2, b3⟩ := hh
        by_cases eb : b = j
        · rw [← eb]
          exact b3
        · exact absurd ⟨b, by omega, b2, b3⟩ e2
      · rw [ac.2 (fun h9 => hh ⟨j, by omega, hy, h9.2.1⟩)]
        exact hv
/-- all ways from a corner -/
def jx_wa (σ0 : jw_H) (ob : Nat) (i : Int) (σ : jw_H) : Prop := jx_f65 σ0 σ ∧ ∀ c, 0 ≤ c → c < σ0 103 56 → jx_ds σ0 ob i c (σ 65 c) (-1)
theorem jx_wf_end {σ0 σ : jw_H} {C : List (ge_R × Int)} (hK : jm_KN σ0 C) {ob : Nat} (ho : jx_ob ob) {i : Int} (i0 : 0 ≤ i) (i1 : i < σ0 103 56) (h : jx_wf σ0 ob i (σ0 103 56).toNat σ) : jx_wa σ0 ob i σ := by
  refine ⟨h.1, fun c c0 c1 => ?_⟩
  by_cases e : jx_by σ0 ob i (σ0 103 56).toNat c
  · obtain ⟨d, -, h2, h3⟩ := (h.2 c c0 c1).1 e
    exact .inl ⟨d, h2, h3⟩
  · exact .inr ⟨(h.2 c c0 c1).2 e, jx_by_n hK ho i0 i1 e⟩
theorem jx_walk_j {n : Nat} {σ0 : jw_H} {o : Nat} {C : List (ge_R × Int)} {D : Nat} {Q : Option jw_V → jw_H → Prop} (hD : 1 ≤ D) (hJ0 : jx_KJ n o C σ0) {ob : Nat} {l : Int} (hl : (l = 1 ∧ ob = 137) ∨ (l = 2 ∧ ob = 138)) {i : Int} (i0 : 0 ≤ i) (i1 : i < σ0 103 56) {s : Nat} (hs : (s : Int) < σ0 103 56) (hQ : ∀ σ, jx_wg σ0 ob i s (σ0 103 56) σ → jw_W (js_S n) D md_29 42 [some (.inr (.inr 57)), some (.inl i), some (.inl l), some (.inl ((s : Int))), some (.inl (σ0 103 56))] [] σ Q) : ∀ (f : Nat) {σ : jw_H} {j : Int}, 0 ≤ j → j + f = σ0 103 56 → jx_wg σ0 ob i s j σ → jw_W (js_S n) D md_29 26 [some (.inr (.inr 57)), some (.inl i), some (.inl l), some (.inl ((s : Int))), some (.inl j)] [] σ Q
  | f, σ, j, j0, hk, H => by
    have ih : ∀ {σ' : jw_H}, j < σ0 103 56 → jx_wg σ0 ob i s (j + 1) σ' → jw_W (js_S n) D md_29 26 [some (.inr (.inr 57)), some (.inl i), some (.inl l), some (.inl ((s : Int))), some (.inl (j + 1))] [] σ' Q := by
      intro σ' h1 h2
      match f, hk with
      | 0, hk => omega
      | f + 1, hk => exact jx_walk_j hD hJ0 hl i0 i1 hs hQ f (by omega) (by omega) h2
    have hJ := jx_KJ_65 H.1 hJ0
    have e56 : σ 103 56 = σ0 103 56 := by rw [H.1 103 (by omega)]
    have hKN0 := hJ0.2.1
    have hob : jx_ob ob := by rcases hl with ⟨-, h⟩ | ⟨-, h⟩; exact .inl h; exact .inr h
    have hn0 := (jx_I0_x hJ0.1).2.2.2.2.2.2.2.2.1.1
    have hI := hJ.1
    have hKN := hJ.2.1
    have hjd := hJ.2.2.2
    obtain ⟨hto, hfo, hp, hP, e0, e1, e2, hPm, hcb, c0, p0, -⟩ := jx_I0_x hI
    have ho := hp.1
    have hq := hP.1
    have hw := hP.2.1
    have hq2 := hP.2.2.1
    have hcn := hcb.1
    refine jw_W_n 2 (i' := 28) (ls' := [some (.inr (.inr 57)), some (.inl i), some (.inl l), some (.inl ((s : Int))), some (.inl j)]) (st' := [.inr (.inr 57), .inl j]) rfl ?_
    refine jw_W_gf rfl rfl rfl ?_
    show jw_W (js_S n) _ md_29 29 [some (.inr (.inr 57)), some (.inl i), some (.inl l), some (.inl ((s : Int))), some (.inl j)] [.inl (σ 57 0), .inl j] σ _
    refine jw_W_ic rfl (by unfold jw_rg; omega) (by unfold jw_rg; omega) (fun hc1 => ?_) (fun hc1 => ?_)
    · have hc1 : j ≥ (σ 57 0) := hc1
      have hkl : j = σ0 103 56 := by omega
      subst hkl
      exact hQ _ H
    · have hc1 : ¬ (j ≥ (σ 57 0)) := hc1
      have hrj := jx_wg_rg hKN0 (by omega) H j0 (show j < σ0 103 56 by omega)
      refine jw_W_n 1 (i' := 31) (ls' := [some (.inr (.inr 57)), some (.inl i), some (.inl l), some (.inl ((s : Int))), some (.inl j)]) (st' := [.inr (.inr 57)]) rfl ?_
      refine jw_W_gf rfl rfl rfl ?_
      show jw_W (js_S n) _ md_29 32 [some (.inr (.inr 57)), some (.inl i), some (.inl l), some (.inl ((s : Int))), some (.inl j)] [.inr (.inr 65)] σ _
      refine jw_W_n 1 (i' := 33) (ls' := [some (.inr (.inr 57)), some (.inl i), some (.inl l), some (.inl ((s : Int))), some (.inl j)]) (st' := [.inl j, .inr (.inr 65)]) rfl ?_
      refine jw_W_ia rfl rfl (by omega) (by omega) (by omega) ?_
      show jw_W (js_S n) _ md_29 34 [some (.inr (.inr 57)), some (.inl i), some (.inl l), some (.inl ((s : Int))), some (.inl j)] [.inl (σ 65 j)] σ _
      refine jw_W_n 1 (i' := 35) (ls' := [some (.inr (.inr 57)), some (.inl i), some (.inl l), some (.inl ((s : Int))), some (.inl j)]) (st' := [.inl ((s : Int)), .inl (σ 65 j)]) rfl ?_
      refine jw_W_ic rfl (by unfold jw_rg; omega) (by unfold jw_rg; omega) (fun hc2 => ?_) (fun hc2 => ?_)
      · have hc2 : (σ 65 j) ≠ ((s : Int)) := hc2
        refine jw_W_n 2 (i' := 26) (ls' := [some (.inr (.inr 57)), some (.inl i), some (.inl l), some (.inl ((s : Int))), some (.inl (j + 1))]) (st' := []) rfl ?_
        exact ih (by omega) (jx_wg_no H (fun hh => by have := (jx_wg_at H j0 (by omega)).mpr hh; omega))
      · have hc2 : (σ 65 j) = ((s : Int)) := Classical.not_not.mp hc2
        refine jw_W_n 3 (i' := 39) (ls' := [some (.inr (.inr 57)), some (.inl i), some (.inl l), some (.inl ((s : Int))), some (.inl j)]) (st' := [.inl l, .inl j, .inr (.inr 57)]) rfl ?_
        refine jw_W_call (as := [.inr (.inr 57), .inl j, .inl l]) (rest := []) rfl rfl rfl rfl (Nat.le_of_ble_eq_true rfl) (.inr rfl) (jx_stepFrom hJ hl j0 (by omega) (s := (s : Int)) (by omega) (by omega) (by omega) (fun c c0 c1 => jx_wg_rg hKN0 (by omega) H c0 (by omega))) (by omega) ?_ rfl
        rintro r1 σ1 ⟨rfl, hsf⟩
        have hxd := (jx_wg_at H j0 (by omega)).mp (by omega)
        have H1 := jx_wg_yes H e56 (fun c => by unfold jm_nx; rw [H.1 ob (by rcases hob with h | h <;> omega)]) hxd hsf
        show jw_W (js_S n) _ md_29 40 [some (.inr (.inr 57)), some (.inl i), some (.inl l), some (.inl ((s : Int))), some (.inl j)] [] σ1 _
        refine jw_W_n 2 (i' := 26) (ls' := [some (.inr (.inr 57)), some (.inl i), some (.inl l), some (.inl ((s : Int))), some (.inl (j + 1))]) (st' := []) rfl ?_
        exact ih (by omega) H1
theorem jx_walk_s {n : Nat} {σ0 : jw_H} {o : Nat} {C : List (ge_R × Int)} (hJ0 : jx_KJ n o C σ0) {ob : Nat} {l : Int} (hl : (l = 1 ∧ ob = 137) ∨ (l = 2 ∧ ob = 138)) {i : Int} (i0 : 0 ≤ i) (i1 : i < σ0 103 56) : ∀ (f : Nat) {σ : jw_H} {s : Nat} {a4 : Option jw_V}, (s : Int) + f = σ0 103 56 → jx_wf σ0 ob i s σ → jw_W (js_S n) 2 md_29 20 [some (.inr (.inr 57)), some (.inl i), some (.inl l), some (.inl ((s : Int))), a4] [] σ (fun r σ' => r = none ∧ jx_wa σ0 ob i σ')
  | f, σ, s, a4, hk, H => by
    have ih : ∀ {σ' : jw_H} {a4 : Option jw_V}, (s : Int) < σ0 103 56 → jx_wf σ0 ob i (s + 1) σ' → jw_W (js_S n) 2 md_29 20 [some (.inr (.inr 57)), some (.inl i), some (.inl l), some (.inl ((s : Int) + 1)), a4] [] σ' (fun r σ' => r = none ∧ jx_wa σ0 ob i σ') := by
      intro σ' a4 h1 h2
      match f, hk with
      | 0, hk => omega
      | f + 1, hk => exact jx_walk_s (s := s + 1) hJ0 hl i0 i1 f (by omega) h2
    have hJ := jx_KJ_65 H.1 hJ0
    have e56 : σ 103 56 = σ0 103 56 := by rw [H.1 103 (by omega)]
    have hKN0 := hJ0.2.1
    have hob : jx_ob ob := by rcases hl with ⟨-, h⟩ | ⟨-, h⟩; exact .inl h; exact .inr h
    have hn0 := (jx_I0_x hJ0.1).2.2.2.2.2.2.2.2.1.1
    have hI := hJ.1
    have hKN := hJ.2.1
    have hjd := hJ.2.2.2
    obtain ⟨hto, hfo, hp, hP, e0, e1, e2, hPm, hcb, c0, p0, -⟩ := jx_I0_x hI
    have ho := hp.1
    have hq := hP.1
    have hw := hP.2.1
    have hq2 := hP.2.2.1
    have hcn := hcb.1
    refine jw_W_n 2 (i' := 22) (ls' := [some (.inr (.inr 57)), some (.inl i), some (.inl l), some (.inl ((s : Int))), a4]) (st' := [.inr (.inr 57), .inl ((s : Int))]) rfl ?_
    refine jw_W_gf rfl rfl rfl ?_
    show jw_W (js_S n) _ md_29 23 [some (.inr (.inr 57)), some (.inl i), some (.inl l), some (.inl ((s : Int))), a4] [.inl (σ 57 0), .inl ((s : Int))] σ _
    refine jw_W_ic rfl (by unfold jw_rg; omega) (by unfold jw_rg; omega) (fun hc1 => ?_) (fun hc1 => ?_)
    · have hc1 : ((s : Int)) ≥ (σ 57 0) := hc1
      refine jw_W_re rfl ?_
      have hkl : s = (σ0 103 56).toNat := by omega
      subst hkl
      exact ⟨rfl, jx_wf_end hKN0 hob i0 i1 H⟩
    · have hc1 : ¬ (((s : Int)) ≥ (σ 57 0)) := hc1
      refine jw_W_n 2 (i' := 26) (ls' := [some (.inr (.inr 57)), some (.inl i), some (.inl l), some (.inl ((s : Int))), some (.inl 0)]) (st' := []) rfl ?_
      refine jx_walk_j (D := 2) (by omega) hJ0 hl i0 i1 (by omega) (fun σ4 H4 => ?_) (σ0 103 56).toNat (j := 0) (by omega) (by omega) (jx_wf_g hKN0 hob i0 i1 H)
      refine jw_W_n 2 (i' := 20) (ls' := [some (.inr (.inr 57)), some (.inl i), some (.inl l), some (.inl ((s : Int) + 1)), some (.inl (σ0 103 56))]) (st' := []) rfl ?_
      exact ih (by omega) (jx_wg_f hKN0 hob i0 i1 H4)
theorem jx_walk_0 {n : Nat} {σ0 : jw_H} {o : Nat} {C : List (ge_R × Int)} {D : Nat} {Q : Option jw_V → jw_H → Prop} (hJ0 : jx_KJ n o C σ0) {i l : Int} (i0 : 0 ≤ i) (i1 : i < σ0 103 56) {a4 : Option jw_V} (hQ : ∀ σ, jx_f65 σ0 σ → (∀ c, 0 ≤ c → c < σ0 103 56 → σ 65 c = if c = i then 0 else -1) → jw_W (js_S n) D md_29 18 [some (.inr (.inr 57)), some (.inl i), some (.inl l), some (.inl (σ0 103 56)), a4] [] σ Q) : ∀ (f : Nat) {σ : jw_H} {j : Int}, 0 ≤ j → j + f = σ0 103 56 → (jx_f65 σ0 σ ∧ ∀ c, 0 ≤ c → c < j → σ 65 c = if c = i then 0 else -1) → jw_W (js_S n) D md_29 2 [some (.inr (.inr 57)), some (.inl i), some (.inl l), some (.inl j), a4] [] σ Q
  | f, σ, j, j0, hk, H => by
    have ih : ∀ {σ' : jw_H}, j < σ0 103 56 → (jx_f65 σ0 σ' ∧ ∀ c, 0 ≤ c → c < j + 1 → σ' 65 c = if c = i then 0 else -1) → jw_W (js_S n) D md_29 2 [some (.inr (.inr 57)), some (.inl i), some (.inl l), some (.inl (j + 1)), a4] [] σ' Q := by
      intro σ' h1 h2
      match f, hk with
      | 0, hk => omega
      | f + 1, hk => exact jx_walk_0 hJ0 i0 i1 hQ f (by omega) (by omega) h2
    have hJ := jx_KJ_65 H.1 hJ0
    have e56 : σ 103 56 = σ0 103 56 := by rw [H.1 103 (by omega)]
    have hI := hJ.1
    have hKN := hJ.2.1
    have hjd := hJ.2.2.2
    obtain ⟨hto, hfo, hp, hP, e0, e1, e2, hPm, hcb, c0, p0, -⟩ := jx_I0_x hI
    have ho := hp.1
    have hq := hP.1
    have hw := hP.2.1
    have hq2 := hP.2.2.1
    have hcn := hcb.1
    refine jw_W_n 2 (i' := 4) (ls' := [some (.inr (.inr 57)), some (.inl i), some (.inl l), some (.inl j), a4]) (st' := [.inr (.inr 57), .inl j]) rfl ?_
    refine jw_W_gf rfl rfl rfl ?_
    show jw_W (js_S n) _ md_29 5 [some (.inr (.inr 57)), some (.inl i), some (.inl l), some (.inl j), a4] [.inl (σ 57 0), .inl j] σ _
    refine jw_W_ic rfl (by unfold jw_rg; omega) (by unfold jw_rg; omega) (fun hc1 => ?_) (fun hc1 => ?_)
    · have hc1 : j ≥ (σ 57 0) := hc1
      have hkl : j = σ0 103 56 := by omega
      subst hkl
      exact hQ _ H.1 H.2
    · have hc1 : ¬ (j ≥ (σ 57 0)) := hc1
      refine jw_W_n 1 (i' := 7) (ls' := [some (.inr (.inr 57)), some (.inl i), some (.inl l), some (.inl j), a4]) (st' := [.inr (.inr 57)]) rfl ?_
      refine jw_W_gf rfl rfl rfl ?_
      show jw_W (js_S n) _ md_29 8 [some (.inr (.inr 57)), some (.inl i), some (.inl l), some (.inl j), a4] [.inr (.inr 65)] σ _
      refine jw_W_n 3 (i' := 11) (ls' := [some (.inr (.inr 57)), some (.inl i), some (.inl l), some (.inl j), a4]) (st' := [.inl i, .inl j, .inl j, .inr (.inr 65)]) rfl ?_
      refine jw_W_ic rfl (by unfold jw_rg; omega) (by unfold jw_rg; omega) (fun hc2 => ?_) (fun hc2 => ?_)
      · have hc2 : j ≠ i := hc2
        refine jw_W_n 1 (i' := 15) (ls' := [some (.inr (.inr 57)), some (.inl i), some (.inl l), some (.inl j), a4]) (st' := [.inl ((-1)), .inl j, .inr (.inr 65)]) rfl ?_
        refine jw_W_is rfl (by omega) rfl (by omega) (by omega) (by omega) ?_
        refine jw_W_n 2 (i' := 2) (ls' := [some (.inr (.inr 57)), some (.inl i), some (.inl l), some (.inl (j + 1)), a4]) (st' := []) rfl ?_
        exact ih (by omega) ⟨fun c hc => by rw [jw_up_out _ _ _ hc]; exact H.1 c hc, fun c c0 c1 => by
          by_cases ec : c = j
          · rw [ec, jw_up_eq]
            first | rw [if_pos (by omega)] | rw [if_neg (by omega)]
          · rw [jw_up_ne _ (by omega)]
            exact H.2 c c0 (by omega)⟩
      · have hc2 : j = i := Classical.not_not.mp hc2
        refine jw_W_n 2 (i' := 15) (ls' := [some (.inr (.inr 57)), some (.inl i), some (.inl l), some (.inl j), a4]) (st' := [.inl 0, .inl j, .inr (.inr 65)]) rfl ?_
        refine jw_W_is rfl (by omega) rfl (by omega) (by omega) (by omega) ?_
        refine jw_W_n 2 (i' := 2) (ls' := [some (.inr (.inr 57)), some (.inl i), some (.inl l), some (.inl (j + 1)), a4]) (st' := []) rfl ?_
        exact ih (by omega) ⟨fun c hc => by rw [jw_up_out _ _ _ hc]; exact H.1 c hc, fun c c0 c1 => by
          by_cases ec : c = j
          · rw [ec, jw_up_eq]
            first | rw [if_pos (by omega)] | rw [if_neg (by omega)]
          · rw [jw_up_ne _ (by omega)]
            exact H.2 c c0 (by omega)⟩
theorem jx_walkFrom {n : Nat} {σ : jw_H} {o : Nat} {C : List (ge_R × Int)} (hJ : jx_KJ n o C σ) {ob : Nat} {l : Int} (hl : (l = 1 ∧ ob = 137) ∨ (l = 2 ∧ ob = 138)) {i : Int} (i0 : 0 ≤ i) (i1 : i < σ 103 56) : jw_T (js_S n) 3 29 [.inr (.inr 57), .inl i, .inl l] σ (fun r σ' => r = none ∧ jx_wa σ ob i σ') := by
  refine jw_T_of (D := 2) (M := mm_29) rfl (Nat.le_of_ble_eq_true rfl) (ls0 := [some (.inr (.inr 57)), some (.inl i), some (.inl l), none, none]) rfl ?_ (by rintro _ _ ⟨rfl, -⟩; rfl)
  have hI := hJ.1
  have hKN := hJ.2.1
  have hjd := hJ.2.2.2
  obtain ⟨hto, hfo, hp, hP, e0, e1, e2, hPm, hcb, c0, p0, -⟩ := jx_I0_x hI
  have ho := hp.1
  have hq := hP.1
  have hw := hP.2.1
  have hq2 := hP.2.2.1
  have hcn := hcb.1
  refine jw_W_n 2 (i' := 2) (ls' := [some (.inr (.inr 57)), some (.inl i), some (.inl l), some (.inl 0), none]) (st' := []) rfl ?_
  refine jx_walk_0 (D := 2) hJ i0 i1 (fun σ4 h1 h2 => ?_) (σ 103 56).toNat (j := 0) (by omega) (by omega) ⟨fun _ _ => rfl, fun c c0 c1 => by omega⟩
  refine jw_W_n 2 (i' := 20) (ls' := [some (.inr (.inr 57)), some (.inl i), some (.inl l), some (.inl 0), none]) (st' := []) rfl ?_
  refine jx_walk_s (s := 0) hJ hl i0 i1 (σ 103 56).toNat (by omega) ⟨h1, fun c c0 c1 => ⟨fun hh => ⟨0, by omega, ?_, hh, fun m hm => by omega⟩, fun hh => ?_⟩⟩
  · rw [h2 c c0 c1, if_pos (show c = i from hh)]
    rfl
  · rw [h2 c c0 c1, if_neg (show ¬ c = i from hh)]

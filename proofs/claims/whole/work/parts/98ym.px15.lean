/-! ===== the class: its layers ===== -/
/-- the reference's own is as it was -/
def jx_me (σ0 σ : jw_H) : Prop := ∀ c, 103 ≤ c → σ c = σ0 c
theorem jx_me_pq {σ0 σ : jw_H} (h : jx_me σ0 σ) : jx_pq σ σ0 := by
  refine ⟨⟨?_, ?_, ?_⟩, fun j _ _ => ?_, fun j _ _ => ?_, fun j _ _ => ?_⟩
  all_goals rw [h _ (by omega)]
theorem jx_me_F {σ0 σ : jw_H} (h : jx_me σ0 σ) : jm_F σ = jm_F σ0 := jx_pq_F (jx_me_pq h)
theorem jx_me_ct {σ0 σ : jw_H} (h : jx_me σ0 σ) (i : Int) : jm_ct σ i = jm_ct σ0 i := by
  unfold jm_ct
  rw [h 132 (by omega), h 133 (by omega), h 134 (by omega), h 135 (by omega)]
theorem jx_me_W {σ0 σ : jw_H} (h : jx_me σ0 σ) (w : Int) : jm_W σ w = jm_W σ0 w := by
  unfold jm_W
  rw [h 104 (by omega)]
theorem jx_me_lv {σ0 σ : jw_H} (h : jx_me σ0 σ) : ∀ (t : Nat) (i : Int), jm_lv σ t i ↔ jm_lv σ0 t i
  | 0, i => by
    unfold jm_lv
    rw [h 103 (by omega)]
  | t + 1, i => by
    unfold jm_lv
    have e : ∀ c, jm_ab' σ c i ↔ jm_ab' σ0 c i := fun c => by
      unfold jm_ab'
      rw [jx_me_F h, jx_me_ct h, jx_me_ct h]
    constructor
    · rintro ⟨h1, c, h2, h3⟩
      exact ⟨(jx_me_lv h t i).mp h1, c, (jx_me_lv h t c).mp h2, (e c).mp h3⟩
    · rintro ⟨h1, c, h2, h3⟩
      exact ⟨(jx_me_lv h t i).mpr h1, c, (jx_me_lv h t c).mpr h2, (e c).mpr h3⟩
theorem jm_lv_dn {σ : jw_H} : ∀ {s t : Nat} {i : Int}, s ≤ t → jm_lv σ t i → jm_lv σ s i
  | s, 0, i, h, hl => by
    rw [show s = 0 by omega]
    exact hl
  | s, t + 1, i, h, hl => by
    by_cases e : s = t + 1
    · rw [e]
      exact hl
    · exact jm_lv_dn (show s ≤ t by omega) hl.1
theorem jm_lv_uq {σ : jw_H} {s t : Nat} {i : Int} (h1 : jm_lv σ s i) (h2 : ¬ jm_lv σ (s + 1) i) (h3 : jm_lv σ t i) (h4 : ¬ jm_lv σ (t + 1) i) : s = t := by
  by_cases a : s < t
  · exact absurd (jm_lv_dn (show s + 1 ≤ t by omega) h3) h2
  · by_cases b : t < s
    · exact absurd (jm_lv_dn (show t + 1 ≤ s by omega) h1) h4
    · omega
/-- where some are left one goes -/
theorem jm_lv_go {σ : jw_H} (hb : jm_cbd σ) {t : Nat} {i : Int} (h : jm_lv σ t i) : ∃ a, jm_lv σ t a ∧ ¬ jm_lv σ (t + 1) a := by
  have hn := hb.1
  have hi := jm_lv_in h
  obtain ⟨a, a0, a1, a2, a3⟩ := jm_top (σ := σ) (jm_lv σ t) (fun i hi => jm_cw hb (jm_lv_in hi).1 (jm_lv_in hi).2) (σ 103 56).toNat ⟨i, hi.1, by omega, h⟩
  refine ⟨a, a2, fun hh => ?_⟩
  obtain ⟨-, c, h1, h2⟩ := hh
  have hc := jm_lv_in h1
  exact a3 c hc.1 (by omega) h1 h2
/-- after so many layers as there are corners nothing is left -/
theorem jm_lv_n {σ : jw_H} (hb : jm_cbd σ) (i : Int) : ¬ jm_lv σ (σ 103 56).toNat i := by
  intro h
  have hn := hb.1
  have := ge_pig (α := Nat) (fun a b => a = b) ((List.range (σ 103 56).toNat).map (fun (c : Nat) => fun s => jm_lv σ s (c : Int) ∧ ¬ jm_lv σ (s + 1) (c : Int))) (List.range ((σ 103 56).toNat + 1)) (List.nodup_range) (fun s hs => by
    rw [List.mem_range] at hs
    obtain ⟨a, a1, a2⟩ := jm_lv_go hb (jm_lv_dn (show s ≤ (σ 103 56).toNat by omega) h)
    have ha := jm_lv_in a1
    refine ⟨_, List.mem_map.mpr ⟨a.toNat, List.mem_range.mpr (by omega), rfl⟩, ?_⟩
    rw [Int.toNat_of_nonneg ha.1]
    exact ⟨a1, a2⟩) (fun q hq a _ b _ h1 h2 => by
    obtain ⟨c, -, rfl⟩ := List.mem_map.mp hq
    exact jm_lv_uq h1.1 h1.2 h2.1 h2.2)
  rw [List.length_range, List.length_map, List.length_range] at this
  omega
/-- the class's scratch: space, layers, links, what is risen, whether it is judged -/
def jx_fj (σ0 σ : jw_H) : Prop := (∀ c, c ≠ 57 → (c < 47 ∨ (56 < c ∧ c < 64) ∨ 91 < c) → σ c = σ0 c) ∧ ∀ j, j ≠ 9 → σ 57 j = σ0 57 j
theorem jx_fj_rf (σ : jw_H) : jx_fj σ σ := ⟨fun _ _ _ => rfl, fun _ _ => rfl⟩
theorem jx_fj_tr {σ σ1 σ2 : jw_H} (a : jx_fj σ σ1) (b : jx_fj σ1 σ2) : jx_fj σ σ2 := ⟨fun o h1 h2 => (b.1 o h1 h2).trans (a.1 o h1 h2), fun j h => (b.2 j h).trans (a.2 j h)⟩
theorem jx_fj_me {σ0 σ : jw_H} (h : jx_fj σ0 σ) : jx_me σ0 σ := fun c hc => h.1 c (by omega) (by omega)
theorem jx_fj_up {σ0 σ : jw_H} {o : Nat} {j v : Int} (h : jx_fj σ0 σ) (ho : (64 ≤ o ∧ o ≤ 91) ∨ (o = 57 ∧ j = 9)) : jx_fj σ0 (jw_up σ o j v) := by
  refine ⟨fun c h1 h2 => ?_, fun j' hj => ?_⟩
  · rw [jw_up_out _ _ _ (by omega)]
    exact h.1 c h1 h2
  · rw [jw_up_ne _ (by omega)]
    exact h.2 j' hj
theorem jx_fj_q {σ0 σ σ' : jw_H} (h : jx_fj σ0 σ) (a : jx_fq σ σ') : jx_fj σ0 σ' := ⟨fun c h1 h2 => (a c (by omega)).trans (h.1 c h1 h2), fun j hj => by rw [a 57 (by omega)]; exact h.2 j hj⟩
theorem jm_kw_me {σ0 σ : jw_H} {C : List (ge_R × Int)} (h : jx_me σ0 σ) (hk : jm_kw σ0 C) : jm_kw σ C := by
  have hq := hk.1.1
  have hk5 := hk.1.2.2.1
  have e1 := jx_pq_bA (jx_me_pq h) (by omega) (by omega)
  have e2 : ∀ k, jm_N σ k = jm_N σ0 k := fun k => by
    unfold jm_N
    rw [h 131 (by omega)]
  obtain ⟨h1, h2, h3, h4, h5, h6⟩ := hk
  refine ⟨jm_Pb_fr (fun j _ => by rw [h 103 (by omega)]) (h 104 (by omega)) (h 105 (by omega)) (h 106 (by omega)) h1, ⟨⟨?_, fun i x hx => ?_⟩, ?_, h2.2.2⟩, ?_, ?_, ?_, trivial⟩
  · rw [h 103 (by omega)]
    exact h2.1.1
  · rw [jx_me_ct h, h 136 (by omega)]
    exact h2.1.2 i x hx
  · rw [h 103 (by omega), e1]
    exact h2.2.1
  · rw [h 103 (by omega), e1]
    exact h3
  · rw [e1]
    exact h4
  · unfold jm_Ns
    rw [h 131 (by omega)]
    exact h5
theorem jx_pq_tr {μ ν ρ : jw_H} (a : jx_pq μ ν) (b : jx_pq ν ρ) : jx_pq μ ρ := by
  obtain ⟨⟨a1, a2, a3⟩, a4, a5, a6⟩ := a
  obtain ⟨⟨b1, b2, b3⟩, b4, b5, b6⟩ := b
  exact ⟨⟨a1.trans b1, a2.trans b2, a3.trans b3⟩, fun j h1 h2 => (a4 j h1 (by omega)).trans (b4 j h1 h2), fun j h1 h2 => (a5 j h1 (by omega)).trans (b5 j h1 h2), fun j h1 h2 => (a6 j h1 h2).trans (b6 j h1 h2)⟩
theorem jx_pq_sy {μ ν : jw_H} (a : jx_pq μ ν) : jx_pq ν μ := by
  obtain ⟨⟨a1, a2, a3⟩, a4, a5, a6⟩ := a
  exact ⟨⟨a1.symm, a2.symm, a3.symm⟩, fun j h1 h2 => (a4 j h1 (by omega)).symm, fun j h1 h2 => (a5 j h1 (by omega)).symm, fun j h1 h2 => (a6 j h1 h2).symm⟩
theorem jx_I0_fj {n : Nat} {σ0 σ : jw_H} {o : Nat} {C : List (ge_R × Int)} (h : jx_fj σ0 σ) (hI : jx_I0 n σ0 o C) : jx_I0 n σ o C := by
  have hme := jx_fj_me h
  obtain ⟨⟨h1, h2, h3, h4⟩, ⟨h5, h6, h7, h8⟩, h9⟩ := hI
  have ho := h2.1
  have fo : ∀ c, o ≤ c → c ≤ o + 5 → σ c = σ0 c := fun c a b => h.1 c (by omega) (by omega)
  refine ⟨⟨?_, h2, jx_Pb_fr fo h3, jx_pq_tr (jx_M_fr fo) (jx_pq_tr h4 (jx_pq_sy (jx_me_pq hme)))⟩, ⟨?_, ?_, ?_, fun i i0 i1 => ?_⟩, jm_kw_me hme h9⟩
  · rw [h.1 13 (by omega) (by omega)]
    exact h1
  · rw [h.2 6 (by omega)]
    exact h5
  · rw [h.2 0 (by omega), hme 103 (by omega)]
    exact h6
  · rw [h.1 58 (by omega) (by omega), hme 103 (by omega)]
    exact h7
  · rw [hme 103 (by omega)] at i1
    have := h8 i i0 i1
    rw [jx_me_ct hme, hme 136 (by omega), h.1 63 (by omega) (by omega)]
    refine ⟨?_, this.2⟩
    rw [← this.1]
    unfold jx_pt
    rw [h.1 (58 + 1) (by omega) (by omega), h.1 (58 + 2) (by omega) (by omega), h.1 (58 + 3) (by omega) (by omega), h.1 (58 + 4) (by omega) (by omega)]
/-- the layers so far -/
def jx_ly (σ0 : jw_H) (l : Nat) (σ : jw_H) : Prop := ∀ c, 0 ≤ c → c < σ0 103 56 → (jm_lv σ0 l c → σ 64 c = -1) ∧ (¬ jm_lv σ0 l c → ∃ s : Nat, s < l ∧ σ 64 c = (s : Int) ∧ jm_lv σ0 s c ∧ ¬ jm_lv σ0 (s + 1) c)
/-- amid a layer -/
def jx_le (σ0 : jw_H) (l : Nat) (σ : jw_H) (i : Int) : Prop := ∀ c, 0 ≤ c → c < σ0 103 56 → (jm_lv σ0 l c → ((c < i ∧ ¬ jm_lv σ0 (l + 1) c) → σ 64 c = (l : Int)) ∧ (¬ (c < i ∧ ¬ jm_lv σ0 (l + 1) c) → σ 64 c = -1)) ∧ (¬ jm_lv σ0 l c → ∃ s : Nat, s < l ∧ σ 64 c = (s : Int) ∧ jm_lv σ0 s c ∧ ¬ jm_lv σ0 (s + 1) c)
theorem jx_ly_le {σ0 σ : jw_H} {l : Nat} (h : jx_ly σ0 l σ) : jx_le σ0 l σ 0 := fun c c0 c1 => ⟨fun hl => ⟨fun hh => by omega, fun _ => (h c c0 c1).1 hl⟩, (h c c0 c1).2⟩
theorem jx_le_ly {σ0 σ : jw_H} {l : Nat} (h : jx_le σ0 l σ (σ0 103 56)) : jx_ly σ0 (l + 1) σ := by
  intro c c0 c1
  refine ⟨fun hl => ((h c c0 c1).1 hl.1).2 (fun hh => hh.2 hl), fun hl => ?_⟩
  by_cases e : jm_lv σ0 l c
  · exact ⟨l, by omega, ((h c c0 c1).1 e).1 ⟨c1, hl⟩, e, hl⟩
  · obtain ⟨s, h1, h2⟩ := (h c c0 c1).2 e
    exact ⟨s, by omega, h2⟩
theorem jx_le_rg {σ0 σ : jw_H} {l : Nat} {i : Int} (h : jx_le σ0 l σ i) (hl : (l : Int) ≤ 20) {c : Int} (c0 : 0 ≤ c) (c1 : c < σ0 103 56) : -1 ≤ σ 64 c ∧ σ 64 c ≤ 20 := by
  by_cases e : jm_lv σ0 l c
  · by_cases e2 : c < i ∧ ¬ jm_lv σ0 (l + 1) c
    · rw [((h c c0 c1).1 e).1 e2]
      omega
    · rw [((h c c0 c1).1 e).2 e2]
      omega
  · obtain ⟨s, h1, h2, -⟩ := (h c c0 c1).2 e
    omega
theorem jx_le_in {σ0 σ : jw_H} {l : Nat} {i : Int} (h : jx_le σ0 l σ i) {c : Int} (c0 : 0 ≤ c) (c1 : c < σ0 103 56) : (σ 64 c < 0 ∨ σ 64 c = (l : Int)) ↔ jm_lv σ0 l c := by
  by_cases e : jm_lv σ0 l c
  · refine ⟨fun _ => e, fun _ => ?_⟩
    by_cases e2 : c < i ∧ ¬ jm_lv σ0 (l + 1) c
    · exact .inr (((h c c0 c1).1 e).1 e2)
    · rw [((h c c0 c1).1 e).2 e2]
      exact .inl (by omega)
  · refine ⟨fun hh => ?_, fun hh => absurd hh e⟩
    obtain ⟨s, h1, h2, -⟩ := (h c c0 c1).2 e
    omega
theorem jx_le_same {σ0 σ : jw_H} {l : Nat} {i : Int} (h : jx_le σ0 l σ i) (hn : ¬ (jm_lv σ0 l i ∧ ¬ jm_lv σ0 (l + 1) i)) : jx_le σ0 l σ (i + 1) := by
  intro c c0 c1
  refine ⟨fun hl => ⟨fun hh => ?_, fun hh => ?_⟩, (h c c0 c1).2⟩
  · by_cases e : c = i
    · rw [e] at hl hh
      exact absurd ⟨hl, hh.2⟩ hn
    · exact ((h c c0 c1).1 hl).1 ⟨by omega, hh.2⟩
  · exact ((h c c0 c1).1 hl).2 (fun h2 => hh ⟨by omega, h2.2⟩)
theorem jx_le_set {σ0 σ : jw_H} {l : Nat} {i : Int} (h : jx_le σ0 l σ i) (hl : jm_lv σ0 l i) (hn : ¬ jm_lv σ0 (l + 1) i) : jx_le σ0 l (jw_up σ 64 i (l : Int)) (i + 1) := by
  intro c c0 c1
  by_cases e : c = i
  · rw [e, jw_up_eq]
    exact ⟨fun _ => ⟨fun _ => rfl, fun hh => absurd ⟨by omega, hn⟩ hh⟩, fun hh => absurd hl hh⟩
  · rw [jw_up_ne _ (by omega)]
    refine ⟨fun hl => ⟨fun hh => ((h c c0 c1).1 hl).1 ⟨by omega, hh.2⟩, fun hh => ((h c c0 c1).1 hl).2 (fun h2 => hh ⟨by omega, h2.2⟩)⟩, (h c c0 c1).2⟩
/-- whether one went -/
def jx_wt (σ0 : jw_H) (l : Nat) (i m : Int) : Prop := (m = 1 ∧ ∃ c, 0 ≤ c ∧ c < i ∧ jm_lv σ0 l c ∧ ¬ jm_lv σ0 (l + 1) c) ∨ (m = 0 ∧ ∀ c, 0 ≤ c → c < i → jm_lv σ0 l c → jm_lv σ0 (l + 1) c)
theorem jx_wt_same {σ0 : jw_H} {l : Nat} {i m : Int} (h : jx_wt σ0 l i m) (hn : ¬ (jm_lv σ0 l i ∧ ¬ jm_lv σ0 (l + 1) i)) : jx_wt σ0 l (i + 1) m := by
  rcases h with ⟨h, c, h1, h2, h3⟩ | ⟨h, h1⟩
  · exact .inl ⟨h, c, h1, by omega, h3⟩
  · refine .inr ⟨h, fun c c0 c1 hl => ?_⟩
    by_cases e : c = i
    · rw [e] at hl ⊢
      exact Classical.not_not.mp (fun hh => hn ⟨hl, hh⟩)
    · exact h1 c c0 (by omega) hl
theorem jx_be_lv {σ0 σ : jw_H} {l : Nat} {i : Int} (hme : jx_me σ0 σ) (H : jx_le σ0 l σ i) (hl : jm_lv σ0 l i) : (∃ c, 0 ≤ c ∧ c < σ 103 56 ∧ (σ 64 c < 0 ∨ σ 64 c = (l : Int)) ∧ ge_bt (jm_F σ) (jm_ct σ i) (jm_ct σ c)) ↔ jm_lv σ0 (l + 1) i := by
  rw [hme 103 (by omega), jx_me_F hme, jx_me_ct hme]
  constructor
  · rintro ⟨c, c0, c1, h1, h2⟩
    rw [jx_me_ct hme] at h2
    exact ⟨hl, c, (jx_le_in H c0 c1).mp h1, h2⟩
  · rintro ⟨-, c, h1, h2⟩
    have hc := jm_lv_in h1
    exact ⟨c, hc.1, hc.2, (jx_le_in H hc.1 hc.2).mpr h1, by rw [jx_me_ct hme]; exact h2⟩
theorem jx_peel_loop {n : Nat} {σ0 : jw_H} {o : Nat} {C : List (ge_R × Int)} {l : Nat} (hI0 : jx_I0 n σ0 o C) (hl20 : (l : Int) ≤ 20) : ∀ (f : Nat) {σ : jw_H} {i m : Int}, 0 ≤ i → i + f = σ0 103 56 → jx_fj σ0 σ → σ 57 9 = σ0 57 9 → σ 91 = σ0 91 → (∀ c, 66 < c → c < 91 → σ c = σ0 c) → jx_le σ0 l σ i → jx_wt σ0 l i m → jw_W (js_S n) 4 md_10 4 [some (.inr (.inr 57)), some (.inl l), some (.inl m), some (.inl i)] [] σ (fun r σ' => ∃ m, r = some (.inl m) ∧ jx_fj σ0 σ' ∧ σ' 57 9 = σ0 57 9 ∧ σ' 91 = σ0 91 ∧ (∀ c, 66 < c → c < 91 → σ' c = σ0 c) ∧ jx_le σ0 l σ' (σ0 103 56) ∧ jx_wt σ0 l (σ0 103 56) m)
  | f, σ, i, m, i0, hk, HF, H9, H91, Hlk, H, Hm => by
    have ih : ∀ {σ' : jw_H} {m' : Int}, i < σ0 103 56 → jx_fj σ0 σ' → σ' 57 9 = σ0 57 9 → σ' 91 = σ0 91 → (∀ c, 66 < c → c < 91 → σ' c = σ0 c) → jx_le σ0 l σ' (i + 1) → jx_wt σ0 l (i + 1) m' → jw_W (js_S n) 4 md_10 4 [some (.inr (.inr 57)), some (.inl l), some (.inl m'), some (.inl (i + 1))] [] σ' (fun r σ' => ∃ m, r = some (.inl m) ∧ jx_fj σ0 σ' ∧ σ' 57 9 = σ0 57 9 ∧ σ' 91 = σ0 91 ∧ (∀ c, 66 < c → c < 91 → σ' c = σ0 c) ∧ jx_le σ0 l σ' (σ0 103 56) ∧ jx_wt σ0 l (σ0 103 56) m) := by
      intro σ' m' h1 h2 h3 h4 h5 h6 h7
      match f, hk with
      | 0, hk => omega
      | f + 1, hk => exact jx_peel_loop hI0 hl20 f (by omega) (by omega) h2 h3 h4 h5 h6 h7
    have hme := jx_fj_me HF
    have e56 : σ 103 56 = σ0 103 56 := by rw [hme 103 (by omega)]
    have hI := jx_I0_fj HF hI0
    obtain ⟨hto, hfo, hp, hP, e0, e1, e2, hPm, hcb, c0, p0, -⟩ := jx_I0_x hI
    have ho := hp.1
    have hq := hP.1
    have hw := hP.2.1
    have hq2 := hP.2.2.1
    have hcn := hcb.1
    refine jw_W_n 2 (i' := 6) (ls' := [some (.inr (.inr 57)), some (.inl l), some (.inl m), some (.inl i)]) (st' := [.inr (.inr 57), .inl i]) rfl ?_
    refine jw_W_gf rfl rfl rfl ?_
    show jw_W (js_S n) _ md_10 7 [some (.inr (.inr 57)), some (.inl l), some (.inl m), some (.inl i)] [.inl (σ 57 0), .inl i] σ _
    refine jw_W_ic rfl (by unfold jw_rg; omega) (by unfold jw_rg; omega) (fun hc1 => ?_) (fun hc1 => ?_)
    · have hc1 : i ≥ (σ 57 0) := hc1
      refine jw_W_n 1 (i' := 28) (ls' := [some (.inr (.inr 57)), some (.inl l), some (.inl m), some (.inl i)]) (st' := [.inl m]) rfl ?_
      refine jw_W_ir rfl ?_
      have hkl : i = σ0 103 56 := by omega
      subst hkl
      exact ⟨m, rfl, HF, H9, H91, Hlk, H, Hm⟩
    · have hc1 : ¬ (i ≥ (σ 57 0)) := hc1
      have hrg := jx_le_rg H hl20 i0 (by omega)
      refine jw_W_n 1 (i' := 9) (ls' := [some (.inr (.inr 57)), some (.inl l), some (.inl m), some (.inl i)]) (st' := [.inr (.inr 57)]) rfl ?_
      refine jw_W_gf rfl rfl rfl ?_
      show jw_W (js_S n) _ md_10 10 [some (.inr (.inr 57)), some (.inl l), some (.inl m), some (.inl i)] [.inr (.inr 64)] σ _
      refine jw_W_n 1 (i' := 11) (ls' := [some (.inr (.inr 57)), some (.inl l), some (.inl m), some (.inl i)]) (st' := [.inl i, .inr (.inr 64)]) rfl ?_
      refine jw_W_ia rfl rfl (by omega) (by omega) (by omega) ?_
      show jw_W (js_S n) _ md_10 12 [some (.inr (.inr 57)), some (.inl l), some (.inl m), some (.inl i)] [.inl (σ 64 i)] σ _
      refine jw_W_if rfl (by unfold jw_rg; omega) (fun hc2 => ?_) (fun hc2 => ?_)
      · have hc2 : (σ 64 i) ≥ 0 := hc2
        refine jw_W_n 2 (i' := 4) (ls' := [some (.inr (.inr 57)), some (.inl l), some (.inl m), some (.inl (i + 1))]) (st' := []) rfl ?_
        have hn2 : ¬ (jm_lv σ0 l i ∧ ¬ jm_lv σ0 (l + 1) i) := fun hh => by
          first
          | exact hh.2 (hbeq.mp hbe)
          | (have h3 := ((H i i0 (by omega)).1 hh.1).2 (fun h4 => by omega)
             omega)
        exact ih (by omega) HF H9 H91 Hlk (jx_le_same H hn2) (jx_wt_same Hm hn2)
      · have hc2 : ¬ ((σ 64 i) ≥ 0) := hc2
        have hlv0 := (jx_le_in H i0 (by omega)).mp (.inl (by omega))
        have hbeq := jx_be_lv hme H hlv0
        refine jw_W_n 3 (i' := 16) (ls' := [some (.inr (.inr 57)), some (.inl l), some (.inl m), some (.inl i)]) (st' := [.inl l, .inl i, .inr (.inr 57)]) rfl ?_
        refine jw_W_call (as := [.inr (.inr 57), .inl i, .inl l]) (rest := []) rfl rfl rfl rfl (Nat.le_of_ble_eq_true rfl) (.inr rfl) (jx_isBeaten hI i0 (by omega) (by unfold jw_rg; omega) (fun c c0 c1 => by have := jx_le_rg H hl20 c0 (by omega); unfold jw_rg; omega)) (by omega) ?_ rfl
        rintro r1 σz (⟨rfl, hs, hbe⟩ | ⟨rfl, hs, hbe⟩)
        · rw [hs]
          show jw_W (js_S n) _ md_10 17 [some (.inr (.inr 57)), some (.inl l), some (.inl m), some (.inl i)] [.inl 1] σ _
          refine jw_W_if rfl (by unfold jw_rg; omega) (fun hc3 => ?_) (fun hc3 => ?_)
          · clear hc3
            refine jw_W_n 2 (i' := 4) (ls' := [some (.inr (.inr 57)), some (.inl l), some (.inl m), some (.inl (i + 1))]) (st' := []) rfl ?_
            have hn2 : ¬ (jm_lv σ0 l i ∧ ¬ jm_lv σ0 (l + 1) i) := fun hh => by
              first
              | exact hh.2 (hbeq.mp hbe)
              | (have h3 := ((H i i0 (by omega)).1 hh.1).2 (fun h4 => by omega)
                 omega)
            exact ih (by omega) HF H9 H91 Hlk (jx_le_same H hn2) (jx_wt_same Hm hn2)
          · exact absurd hc3 (show ¬ ¬ ((1 : Int) ≠ 0) by omega)
        · rw [hs]
          show jw_W (js_S n) _ md_10 17 [some (.inr (.inr 57)), some (.inl l), some (.inl m), some (.inl i)] [.inl 0] σ _
          refine jw_W_if rfl (by unfold jw_rg; omega) (fun hc4 => ?_) (fun hc4 => ?_)
          · exact absurd hc4 (show ¬ ((0 : Int) ≠ 0) by omega)
          · clear hc4
            refine jw_W_n 1 (i' := 19) (ls' := [some (.inr (.inr 57)), some (.inl l), some (.inl m), some (.inl i)]) (st' := [.inr (.inr 57)]) rfl ?_
            refine jw_W_gf rfl rfl rfl ?_
            show jw_W (js_S n) _ md_10 20 [some (.inr (.inr 57)), some (.inl l), some (.inl m), some (.inl i)] [.inr (.inr 64)] σ _
            refine jw_W_n 2 (i' := 22) (ls' := [some (.inr (.inr 57)), some (.inl l), some (.inl m), some (.inl i)]) (st' := [.inl l, .inl i, .inr (.inr 64)]) rfl ?_
            refine jw_W_is rfl (by omega) rfl (by omega) (by omega) (by omega) ?_
            refine jw_W_n 4 (i' := 4) (ls' := [some (.inr (.inr 57)), some (.inl l), some (.inl 1), some (.inl (i + 1))]) (st' := []) rfl ?_
            have hlv := (jx_le_in H i0 (by omega)).mp (.inl (by omega))
            have hn2 : ¬ jm_lv σ0 (l + 1) i := fun hh => hbe (hbeq.mpr hh)
            exact ih (by omega) (jx_fj_up HF (.inl (by omega))) (by rw [jw_up_ne _ (by omega)]; exact H9) (by rw [jw_up_out _ _ _ (by omega)]; exact H91) (fun c h1 h2 => by rw [jw_up_out _ _ _ (by omega)]; exact Hlk c h1 h2) (jx_le_set H hlv hn2) (.inl ⟨rfl, i, i0, by omega, hlv, hn2⟩)
theorem jx_peel {n : Nat} {σ : jw_H} {o : Nat} {C : List (ge_R × Int)} (hI : jx_I0 n σ o C) {l : Nat} (hl20 : (l : Int) ≤ 20) (hL : jx_ly σ l σ) : jw_T (js_S n) 5 10 [.inr (.inr 57), .inl l] σ (fun r σ' => ∃ m, r = some (.inl m) ∧ jx_fj σ σ' ∧ σ' 57 9 = σ 57 9 ∧ σ' 91 = σ 91 ∧ (∀ c, 66 < c → c < 91 → σ' c = σ c) ∧ jx_le σ l σ' (σ 103 56) ∧ jx_wt σ l (σ 103 56) m) := by
  refine jw_T_of (D := 4) (M := mm_10) rfl (Nat.le_of_ble_eq_true rfl) (ls0 := [some (.inr (.inr 57)), some (.inl l), none, none]) rfl ?_ (by rintro _ _ ⟨_, rfl, -, -, -, -, -, ⟨rfl, -⟩ | ⟨rfl, -⟩⟩ <;> rfl)
  refine jw_W_n 4 (i' := 4) (ls' := [some (.inr (.inr 57)), some (.inl l), some (.inl 0), some (.inl 0)]) (st' := []) rfl ?_
  exact jx_peel_loop hI hl20 (σ 103 56).toNat (i := 0) (m := 0) (by omega) (by have := (jx_I0_x hI).2.2.2.2.2.2.2.2.1.1; omega) (jx_fj_rf σ) rfl rfl (fun _ _ _ => rfl) (jx_ly_le hL) (.inr ⟨rfl, fun c c0 c1 => by omega⟩)

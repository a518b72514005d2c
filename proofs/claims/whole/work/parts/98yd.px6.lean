/-! ===== the class: all the points ===== -/
/-- triples before this one -/
def jx_bf (i j k a b c : Int) : Prop := a < i ∨ (a = i ∧ (b < j ∨ (b = j ∧ c < k)))
/-- the points so far -/
def jx_fi (σ0 : jw_H) (P : List ge_R) (i j k : Int) (σ : jw_H) : Prop := jx_pl σ 48 P ∧ jx_so P ∧ (∀ o, (o < 48 ∨ 52 < o) → σ o = σ0 o) ∧ ∀ v, v ∈ P ↔ ∃ a b c, 0 ≤ a ∧ a < b ∧ b < c ∧ c < σ0 47 1 ∧ jx_bf i j k a b c ∧ jx_ht (jx_RL σ0) (jx_rw σ0 a) (jx_rw σ0 b) (jx_rw σ0 c) v
theorem jx_fr_rw {σ0 σ : jw_H} (h : ∀ o, (o < 48 ∨ 52 < o) → σ o = σ0 o) : (∀ i, jx_rw σ i = jx_rw σ0 i) ∧ σ 47 1 = σ0 47 1 ∧ jx_RL σ = jx_RL σ0 := by
  have e1 : ∀ i, jx_rw σ i = jx_rw σ0 i := fun i => by
    unfold jx_rw
    rw [h 53 (by omega), h 54 (by omega), h 55 (by omega), h 56 (by omega)]
  have e2 : σ 47 1 = σ0 47 1 := by rw [h 47 (by omega)]
  refine ⟨e1, e2, ?_⟩
  unfold jx_RL
  rw [e2]
  exact List.map_congr_left (fun i _ => e1 i)
theorem jx_fi_ok {σ0 σ : jw_H} {P : List ge_R} {i j k : Int} (hN : 0 ≤ σ0 47 1 ∧ σ0 47 1 ≤ 24) (hbd : ∀ v, ge_V (jx_RL σ0) v → ge_g v = 1 → jx_bd v) (h : jx_fi σ0 P i j k σ) : (∀ u ∈ P, ge_V (jx_RL σ0) u ∧ jx_ok u) ∧ P.length < 64 := by
  have a1 : ∀ u ∈ P, ge_V (jx_RL σ0) u ∧ jx_ok u := by
    intro u hu
    obtain ⟨a, b, c, h1, h2, h3, h4, -, h5⟩ := (h.2.2.2 u).mp hu
    have hv := jx_ht_V (jx_RL_mem.mpr ⟨a, by omega, by omega, rfl⟩) (jx_RL_mem.mpr ⟨b, by omega, by omega, rfl⟩) (jx_RL_mem.mpr ⟨c, by omega, by omega, rfl⟩) h5
    exact ⟨hv, hbd u hv h5.2.1, h5.2.1⟩
  refine ⟨a1, ?_⟩
  have := ge_count (R := jx_RL σ0) (Ps := P) (fun u hu => (a1 u hu).1) (h.2.1.imp (fun hh => ge_lt_ne hh))
  rw [jx_RL_len] at this
  omega
theorem jx_fi_skip {σ0 σ : jw_H} {P : List ge_R} {i j k : Int} (h : jx_fi σ0 P i j k σ) (hd : ge_det (jx_rw σ0 i) (jx_rw σ0 j) (jx_rw σ0 k) = 0) : jx_fi σ0 P i j (k + 1) σ := by
  refine ⟨h.1, h.2.1, h.2.2.1, fun v => (h.2.2.2 v).trans ?_⟩
  constructor
  · rintro ⟨a, b, c, h1, h2, h3, h4, h5, h6⟩
    exact ⟨a, b, c, h1, h2, h3, h4, by unfold jx_bf at *; omega, h6⟩
  · rintro ⟨a, b, c, h1, h2, h3, h4, h5, h6⟩
    by_cases e : a = i ∧ b = j ∧ c = k
    · obtain ⟨rfl, rfl, rfl⟩ := e
      exact absurd hd h6.2.2.2.2.2
    · exact ⟨a, b, c, h1, h2, h3, h4, by unfold jx_bf at *; omega, h6⟩
theorem jx_fi_meet {σ0 σ σ' : jw_H} {P : List ge_R} {i j k : Int} (h : jx_fi σ0 P i j k σ) (i0 : 0 ≤ i) (ij : i < j) (jk : j < k) (kn : k < σ0 47 1) (hm : jx_mr σ P (jx_rw σ i) (jx_rw σ j) (jx_rw σ k) σ') : ∃ P', jx_fi σ0 P' i j (k + 1) σ' := by
  obtain ⟨P', m1, m2, m3, m4⟩ := hm
  obtain ⟨e1, e2, e3⟩ := jx_fr_rw h.2.2.1
  rw [e1, e1, e1, e3] at m3
  refine ⟨P', m1, m2, fun o ho => (m4 o ho).trans (h.2.2.1 o ho), fun v => (m3 v).trans ?_⟩
  constructor
  · rintro (hv | hv)
    · obtain ⟨a, b, c, h1, h2, h3, h4, h5, h6⟩ := (h.2.2.2 v).mp hv
      exact ⟨a, b, c, h1, h2, h3, h4, by unfold jx_bf at *; omega, h6⟩
    · exact ⟨i, j, k, i0, ij, jk, kn, by unfold jx_bf; omega, hv⟩
  · rintro ⟨a, b, c, h1, h2, h3, h4, h5, h6⟩
    by_cases e : a = i ∧ b = j ∧ c = k
    · obtain ⟨rfl, rfl, rfl⟩ := e
      exact .inr h6
    · exact .inl ((h.2.2.2 v).mpr ⟨a, b, c, h1, h2, h3, h4, by unfold jx_bf at *; omega, h6⟩)
theorem jx_fi_re {σ0 σ : jw_H} {P : List ge_R} {i j k i' j' k' : Int} (h : jx_fi σ0 P i j k σ) (he : ∀ a b c, 0 ≤ a → a < b → b < c → c < σ0 47 1 → (jx_bf i j k a b c ↔ jx_bf i' j' k' a b c)) : jx_fi σ0 P i' j' k' σ := by
  refine ⟨h.1, h.2.1, h.2.2.1, fun v => (h.2.2.2 v).trans ?_⟩
  constructor
  · rintro ⟨a, b, c, h1, h2, h3, h4, h5, h6⟩
    exact ⟨a, b, c, h1, h2, h3, h4, (he a b c h1 h2 h3 h4).mp h5, h6⟩
  · rintro ⟨a, b, c, h1, h2, h3, h4, h5, h6⟩
    exact ⟨a, b, c, h1, h2, h3, h4, (he a b c h1 h2 h3 h4).mpr h5, h6⟩
/-- all of them -/
def jx_fd (σ0 : jw_H) (σ : jw_H) : Prop := ∃ P, jx_pl σ 48 P ∧ jx_so P ∧ (∀ o, (o < 48 ∨ 52 < o) → σ o = σ0 o) ∧ ∀ v, v ∈ P ↔ ge_V (jx_RL σ0) v ∧ ge_g v = 1
theorem ge_det_sw (r q t : ge_R) : ge_det q r t = - ge_det r q t := by
  simp only [ge_det, ge_n, ge_x]
  grind
theorem jx_ht_rot {R : List ge_R} {r q t v : ge_R} (h : jx_ht R r q t v) : jx_ht R q t r v := ⟨h.1, h.2.1, h.2.2.2.1, h.2.2.2.2.1, h.2.2.1, by rw [ge_det_rot]; exact h.2.2.2.2.2⟩
theorem jx_ht_sw {R : List ge_R} {r q t v : ge_R} (h : jx_ht R r q t v) : jx_ht R q r t v := ⟨h.1, h.2.1, h.2.2.2.1, h.2.2.1, h.2.2.2.2.1, by rw [ge_det_sw]; have := h.2.2.2.2.2; omega⟩
theorem ge_det_aa (r t : ge_R) : ge_det r r t = 0 := by
  simp only [ge_det, ge_n, ge_x]
  grind
theorem jx_fi_end {σ0 σ : jw_H} {P : List ge_R} {j k : Int} (h : jx_fi σ0 P (σ0 47 1) j k σ) : jx_fd σ0 σ := by
  refine ⟨P, h.1, h.2.1, h.2.2.1, fun v => (h.2.2.2 v).trans ?_⟩
  constructor
  · rintro ⟨a, b, c, h1, h2, h3, h4, -, h6⟩
    exact ⟨jx_ht_V (jx_RL_mem.mpr ⟨a, by omega, by omega, rfl⟩) (jx_RL_mem.mpr ⟨b, by omega, by omega, rfl⟩) (jx_RL_mem.mpr ⟨c, by omega, by omega, rfl⟩) h6, h6.2.1⟩
  · rintro ⟨⟨hF, r, hr, q, hq, t, ht, s1, s2, s3, hd⟩, hg⟩
    obtain ⟨a, a0, a1, rfl⟩ := jx_RL_mem.mp hr
    obtain ⟨b, b0, b1, rfl⟩ := jx_RL_mem.mp hq
    obtain ⟨c, c0, c1, rfl⟩ := jx_RL_mem.mp ht
    have hh : jx_ht (jx_RL σ0) (jx_rw σ0 a) (jx_rw σ0 b) (jx_rw σ0 c) v := ⟨hF, hg, s1, s2, s3, hd⟩
    have n1 : a ≠ b := fun e => by
      rw [e] at hd
      exact hd (ge_det_aa _ _)
    have n2 : b ≠ c := fun e => by
      rw [e, ← ge_det_rot] at hd
      exact hd (ge_det_aa _ _)
    have n3 : a ≠ c := fun e => by
      rw [e, ← ge_det_rot, ← ge_det_rot] at hd
      exact hd (ge_det_aa _ _)
    have key : ∀ x y z, 0 ≤ x → x < y → y < z → z < σ0 47 1 → jx_ht (jx_RL σ0) (jx_rw σ0 x) (jx_rw σ0 y) (jx_rw σ0 z) v → ∃ a b c, 0 ≤ a ∧ a < b ∧ b < c ∧ c < σ0 47 1 ∧ jx_bf (σ0 47 1) j k a b c ∧ jx_ht (jx_RL σ0) (jx_rw σ0 a) (jx_rw σ0 b) (jx_rw σ0 c) v := fun x y z h1 h2 h3 h4 h5 => ⟨x, y, z, h1, h2, h3, h4, by unfold jx_bf; omega, h5⟩
    by_cases l1 : a < b
    · by_cases l2 : b < c
      · exact key a b c a0 l1 l2 c1 hh
      · by_cases l3 : a < c
        · exact key a c b a0 l3 (by omega) b1 (jx_ht_rot (jx_ht_sw hh) |> fun h => h)
        · exact key c a b c0 (by omega) l1 b1 (jx_ht_rot (jx_ht_rot hh))
    · by_cases l2 : a < c
      · exact key b a c b0 (by omega) l2 c1 (jx_ht_sw hh)
      · by_cases l3 : b < c
        · exact key b c a b0 l3 (by omega) a1 (jx_ht_rot hh)
        · exact key c b a c0 (by omega) (by omega) a1 (jx_ht_rot (jx_ht_rot (jx_ht_sw hh)))
theorem jx_find_k {n : Nat} {σ0 : jw_H} {D : Nat} {i j x y z : Int} {Q : Option jw_V → jw_H → Prop} (hD : 3 ≤ D) (hN : 0 ≤ σ0 47 1 ∧ σ0 47 1 ≤ 24) (hb : ∀ i, 0 ≤ i → i < σ0 47 1 → jx_rb (jx_rw σ0 i)) (hbd : ∀ v, ge_V (jx_RL σ0) v → ge_g v = 1 → jx_bd v) (i0 : 0 ≤ i) (ij : i < j) (jn : j < σ0 47 1) (hx : x = σ0 54 i * σ0 55 j - σ0 55 i * σ0 54 j) (hy : y = σ0 55 i * σ0 53 j - σ0 53 i * σ0 55 j) (hz : z = σ0 53 i * σ0 54 j - σ0 54 i * σ0 53 j) (hQ : ∀ σ P v, jx_fi σ0 P i j (σ0 47 1) σ → jw_W (js_S n) D md_101 117 [some (.inr (.inr 47)), some (.inl i), some (.inl j), some (.inl x), some (.inl y), some (.inl z), some (.inl (σ0 47 1)), v] [] σ Q) : ∀ (f : Nat) {σ : jw_H} {P : List ge_R} {k : Int} {a7 : Option jw_V}, j < k → k + f = σ0 47 1 → jx_fi σ0 P i j k σ → jw_W (js_S n) D md_101 82 [some (.inr (.inr 47)), some (.inl i), some (.inl j), some (.inl x), some (.inl y), some (.inl z), some (.inl k), a7] [] σ Q
  | f, σ, P, k, a7, jk, hk, H => by
    have ih : ∀ {σ' : jw_H} {P' : List ge_R} {a7 : Option jw_V}, k < σ0 47 1 → jx_fi σ0 P' i j (k + 1) σ' → jw_W (js_S n) D md_101 82 [some (.inr (.inr 47)), some (.inl i), some (.inl j), some (.inl x), some (.inl y), some (.inl z), some (.inl (k + 1)), a7] [] σ' Q := by
      intro σ' P' a7 h1 h2
      match f, hk with
      | 0, hk => omega
      | f + 1, hk => exact jx_find_k hD hN hb hbd i0 ij jn hx hy hz hQ f (by omega) (by omega) h2
    have f47 : σ 47 1 = σ0 47 1 := by rw [H.2.2.1 47 (by omega)]
    have f53 : σ 53 = σ0 53 := H.2.2.1 53 (by omega)
    have f54 : σ 54 = σ0 54 := H.2.2.1 54 (by omega)
    have f55 : σ 55 = σ0 55 := H.2.2.1 55 (by omega)
    refine jw_W_n 2 (i' := 84) (ls' := [some (.inr (.inr 47)), some (.inl i), some (.inl j), some (.inl x), some (.inl y), some (.inl z), some (.inl k), a7]) (st' := [.inr (.inr 47), .inl k]) rfl ?_
    refine jw_W_gf rfl rfl rfl ?_
    show jw_W (js_S n) _ md_101 85 [some (.inr (.inr 47)), some (.inl i), some (.inl j), some (.inl x), some (.inl y), some (.inl z), some (.inl k), a7] [.inl (σ 47 1), .inl k] σ _
    refine jw_W_ic rfl (by unfold jw_rg; omega) (by unfold jw_rg; omega) (fun hc1 => ?_) (fun hc1 => ?_)
    · have hc1 : k ≥ (σ 47 1) := hc1
      have hkl : k = σ0 47 1 := by omega
      subst hkl
      exact hQ _ P _ H
    · have hc1 : ¬ (k ≥ (σ 47 1)) := hc1
      refine jw_W_n 2 (i' := 88) (ls' := [some (.inr (.inr 47)), some (.inl i), some (.inl j), some (.inl x), some (.inl y), some (.inl z), some (.inl k), a7]) (st' := [.inr (.inr 47), .inl x]) rfl ?_
      refine jw_W_gf rfl rfl rfl ?_
      show jw_W (js_S n) _ md_101 89 [some (.inr (.inr 47)), some (.inl i), some (.inl j), some (.inl x), some (.inl y), some (.inl z), some (.inl k), a7] [.inr (.inr 53), .inl x] σ _
      refine jw_W_n 1 (i' := 90) (ls' := [some (.inr (.inr 47)), some (.inl i), some (.inl j), some (.inl x), some (.inl y), some (.inl z), some (.inl k), a7]) (st' := [.inl k, .inr (.inr 53), .inl x]) rfl ?_
      refine jw_W_ia rfl rfl (by omega) (by omega) (by omega) ?_
      show jw_W (js_S n) _ md_101 91 [some (.inr (.inr 47)), some (.inl i), some (.inl j), some (.inl x), some (.inl y), some (.inl z), some (.inl k), a7] [.inl (σ 53 k), .inl x] σ _
      refine jw_W_n 3 (i' := 94) (ls' := [some (.inr (.inr 47)), some (.inl i), some (.inl j), some (.inl x), some (.inl y), some (.inl z), some (.inl k), a7]) (st' := [.inr (.inr 47), .inl y, .inl (x * (σ 53 k))]) rfl ?_
      refine jw_W_gf rfl rfl rfl ?_
      show jw_W (js_S n) _ md_101 95 [some (.inr (.inr 47)), some (.inl i), some (.inl j), some (.inl x), some (.inl y), some (.inl z), some (.inl k), a7] [.inr (.inr 54), .inl y, .inl (x * (σ 53 k))] σ _
      refine jw_W_n 1 (i' := 96) (ls' := [some (.inr (.inr 47)), some (.inl i), some (.inl j), some (.inl x), some (.inl y), some (.inl z), some (.inl k), a7]) (st' := [.inl k, .inr (.inr 54), .inl y, .inl (x * (σ 53 k))]) rfl ?_
      refine jw_W_ia rfl rfl (by omega) (by omega) (by omega) ?_
      show jw_W (js_S n) _ md_101 97 [some (.inr (.inr 47)), some (.inl i), some (.inl j), some (.inl x), some (.inl y), some (.inl z), some (.inl k), a7] [.inl (σ 54 k), .inl y, .inl (x * (σ 53 k))] σ _
      refine jw_W_n 4 (i' := 101) (ls' := [some (.inr (.inr 47)), some (.inl i), some (.inl j), some (.inl x), some (.inl y), some (.inl z), some (.inl k), a7]) (st' := [.inr (.inr 47), .inl z, .inl ((x * (σ 53 k)) + (y * (σ 54 k)))]) rfl ?_
      refine jw_W_gf rfl rfl rfl ?_
      show jw_W (js_S n) _ md_101 102 [some (.inr (.inr 47)), some (.inl i), some (.inl j), some (.inl x), some (.inl y), some (.inl z), some (.inl k), a7] [.inr (.inr 55), .inl z, .inl ((x * (σ 53 k)) + (y * (σ 54 k)))] σ _
      refine jw_W_n 1 (i' := 103) (ls' := [some (.inr (.inr 47)), some (.inl i), some (.inl j), some (.inl x), some (.inl y), some (.inl z), some (.inl k), a7]) (st' := [.inl k, .inr (.inr 55), .inl z, .inl ((x * (σ 53 k)) + (y * (σ 54 k)))]) rfl ?_
      refine jw_W_ia rfl rfl (by omega) (by omega) (by omega) ?_
      show jw_W (js_S n) _ md_101 104 [some (.inr (.inr 47)), some (.inl i), some (.inl j), some (.inl x), some (.inl y), some (.inl z), some (.inl k), a7] [.inl (σ 55 k), .inl z, .inl ((x * (σ 53 k)) + (y * (σ 54 k)))] σ _
      refine jw_W_n 3 (i' := 107) (ls' := [some (.inr (.inr 47)), some (.inl i), some (.inl j), some (.inl x), some (.inl y), some (.inl z), some (.inl k), some (.inl (((x * (σ 53 k)) + (y * (σ 54 k))) + (z * (σ 55 k))))]) (st' := []) rfl ?_
      have hde : x * σ 53 k + y * σ 54 k + z * σ 55 k = ge_det (jx_rw σ i) (jx_rw σ j) (jx_rw σ k) := by
        simp only [ge_det, ge_n, ge_x, jx_rw, hx, hy, hz, f53, f54, f55]
        grind
      have hde2 := ge_det_sm (hb i i0 (by omega)).1 (hb j (by omega) (by omega)).1 (hb k (by omega) (by omega)).1
      rw [← (jx_fr_rw H.2.2.1).1, ← (jx_fr_rw H.2.2.1).1, ← (jx_fr_rw H.2.2.1).1, ← hde] at hde2
      refine jw_W_n 1 (i' := 108) (ls' := [some (.inr (.inr 47)), some (.inl i), some (.inl j), some (.inl x), some (.inl y), some (.inl z), some (.inl k), some (.inl (((x * (σ 53 k)) + (y * (σ 54 k))) + (z * (σ 55 k))))]) (st' := [.inl (((x * (σ 53 k)) + (y * (σ 54 k))) + (z * (σ 55 k)))]) rfl ?_
      refine jw_W_if rfl (by unfold jw_rg; omega) (fun hc2 => ?_) (fun hc2 => ?_)
      · have hc2 : (((x * (σ 53 k)) + (y * (σ 54 k))) + (z * (σ 55 k))) = 0 := hc2
        refine jw_W_n 2 (i' := 82) (ls' := [some (.inr (.inr 47)), some (.inl i), some (.inl j), some (.inl x), some (.inl y), some (.inl z), some (.inl (k + 1)), some (.inl (((x * (σ 53 k)) + (y * (σ 54 k))) + (z * (σ 55 k))))]) (st' := []) rfl ?_
        exact ih (by omega) (jx_fi_skip H (by rw [← (jx_fr_rw H.2.2.1).1, ← (jx_fr_rw H.2.2.1).1, ← (jx_fr_rw H.2.2.1).1, ← hde]; omega))
      · have hc2 : ¬ ((((x * (σ 53 k)) + (y * (σ 54 k))) + (z * (σ 55 k))) = 0) := hc2
        refine jw_W_n 5 (i' := 114) (ls' := [some (.inr (.inr 47)), some (.inl i), some (.inl j), some (.inl x), some (.inl y), some (.inl z), some (.inl k), some (.inl (((x * (σ 53 k)) + (y * (σ 54 k))) + (z * (σ 55 k))))]) (st' := [.inl (((x * (σ 53 k)) + (y * (σ 54 k))) + (z * (σ 55 k))), .inl k, .inl j, .inl i, .inr (.inr 47)]) rfl ?_
        refine jw_W_call (as := [.inr (.inr 47), .inl i, .inl j, .inl k, .inl (((x * (σ 53 k)) + (y * (σ 54 k))) + (z * (σ 55 k)))]) (rest := []) rfl rfl rfl rfl (Nat.le_of_ble_eq_true rfl) (.inr rfl) (jx_meet (by rw [f47]; exact hN) (by rw [f47]; intro i i0 i1; rw [(jx_fr_rw H.2.2.1).1]; exact hb i i0 i1) (by rw [(jx_fr_rw H.2.2.1).2.2]; exact hbd) i0 (by omega) (by omega) (by omega) (by omega) (by omega) hde (by omega) H.1 H.2.1 (fun u hu => ((jx_fi_ok hN hbd H).1 u hu).2) (jx_fi_ok hN hbd H).2) (by omega) ?_ rfl
        rintro r1 σ1 ⟨rfl, hm⟩
        show jw_W (js_S n) _ md_101 115 [some (.inr (.inr 47)), some (.inl i), some (.inl j), some (.inl x), some (.inl y), some (.inl z), some (.inl k), some (.inl (((x * (σ 53 k)) + (y * (σ 54 k))) + (z * (σ 55 k))))] [] σ1 _
        refine jw_W_n 2 (i' := 82) (ls' := [some (.inr (.inr 47)), some (.inl i), some (.inl j), some (.inl x), some (.inl y), some (.inl z), some (.inl (k + 1)), some (.inl (((x * (σ 53 k)) + (y * (σ 54 k))) + (z * (σ 55 k))))]) (st' := []) rfl ?_
        obtain ⟨P2, H2⟩ := jx_fi_meet H i0 (by omega) (by omega) (by omega) hm
        exact ih (by omega) H2
theorem jx_find_j {n : Nat} {σ0 : jw_H} {D : Nat} {i : Int} {Q : Option jw_V → jw_H → Prop} (hD : 3 ≤ D) (hN : 0 ≤ σ0 47 1 ∧ σ0 47 1 ≤ 24) (hb : ∀ i, 0 ≤ i → i < σ0 47 1 → jx_rb (jx_rw σ0 i)) (hbd : ∀ v, ge_V (jx_RL σ0) v → ge_g v = 1 → jx_bd v) (i0 : 0 ≤ i) (hQ : ∀ σ P v3 v4 v5 v6 v7, jx_fi σ0 P i (σ0 47 1) (σ0 47 1 + 1) σ → jw_W (js_S n) D md_101 119 [some (.inr (.inr 47)), some (.inl i), some (.inl (σ0 47 1)), v3, v4, v5, v6, v7] [] σ Q) : ∀ (f : Nat) {σ : jw_H} {P : List ge_R} {j : Int} {a3 : Option jw_V} {a4 : Option jw_V} {a5 : Option jw_V} {a6 : Option jw_V} {a7 : Option jw_V}, i < j → j + f = σ0 47 1 → jx_fi σ0 P i j (j + 1) σ → jw_W (js_S n) D md_101 14 [some (.inr (.inr 47)), some (.inl i), some (.inl j), a3, a4, a5, a6, a7] [] σ Q
  | f, σ, P, j, a3, a4, a5, a6, a7, ij, hk, H => by
    have ih : ∀ {σ' : jw_H} {P' : List ge_R} {a3 : Option jw_V} {a4 : Option jw_V} {a5 : Option jw_V} {a6 : Option jw_V} {a7 : Option jw_V}, j < σ0 47 1 → jx_fi σ0 P' i (j + 1) (j + 1 + 1) σ' → jw_W (js_S n) D md_101 14 [some (.inr (.inr 47)), some (.inl i), some (.inl (j + 1)), a3, a4, a5, a6, a7] [] σ' Q := by
      intro σ' P' a3 a4 a5 a6 a7 h1 h2
      match f, hk with
      | 0, hk => omega
      | f + 1, hk => exact jx_find_j hD hN hb hbd i0 hQ f (by omega) (by omega) h2
    have f47 : σ 47 1 = σ0 47 1 := by rw [H.2.2.1 47 (by omega)]
    have f53 : σ 53 = σ0 53 := H.2.2.1 53 (by omega)
    have f54 : σ 54 = σ0 54 := H.2.2.1 54 (by omega)
    have f55 : σ 55 = σ0 55 := H.2.2.1 55 (by omega)
    refine jw_W_n 2 (i' := 16) (ls' := [some (.inr (.inr 47)), some (.inl i), some (.inl j), a3, a4, a5, a6, a7]) (st' := [.inr (.inr 47), .inl j]) rfl ?_
    refine jw_W_gf rfl rfl rfl ?_
    show jw_W (js_S n) _ md_101 17 [some (.inr (.inr 47)), some (.inl i), some (.inl j), a3, a4, a5, a6, a7] [.inl (σ 47 1), .inl j] σ _
    refine jw_W_ic rfl (by unfold jw_rg; omega) (by unfold jw_rg; omega) (fun hc1 => ?_) (fun hc1 => ?_)
    · have hc1 : j ≥ (σ 47 1) := hc1
      have hkl : j = σ0 47 1 := by omega
      subst hkl
      exact hQ _ P _ _ _ _ _ H
    · have hc1 : ¬ (j ≥ (σ 47 1)) := hc1
      refine jw_W_n 1 (i' := 19) (ls' := [some (.inr (.inr 47)), some (.inl i), some (.inl j), a3, a4, a5, a6, a7]) (st' := [.inr (.inr 47)]) rfl ?_
      refine jw_W_gf rfl rfl rfl ?_
      show jw_W (js_S n) _ md_101 20 [some (.inr (.inr 47)), some (.inl i), some (.inl j), a3, a4, a5, a6, a7] [.inr (.inr 54)] σ _
      refine jw_W_n 1 (i' := 21) (ls' := [some (.inr (.inr 47)), some (.inl i), some (.inl j), a3, a4, a5, a6, a7]) (st' := [.inl i, .inr (.inr 54)]) rfl ?_
      refine jw_W_ia rfl rfl (by omega) (by omega) (by omega) ?_
      show jw_W (js_S n) _ md_101 22 [some (.inr (.inr 47)), some (.inl i), some (.inl j), a3, a4, a5, a6, a7] [.inl (σ 54 i)] σ _
      refine jw_W_n 1 (i' := 23) (ls' := [some (.inr (.inr 47)), some (.inl i), some (.inl j), a3, a4, a5, a6, a7]) (st' := [.inr (.inr 47), .inl (σ 54 i)]) rfl ?_
      refine jw_W_gf rfl rfl rfl ?_
      show jw_W (js_S n) _ md_101 24 [some (.inr (.inr 47)), some (.inl i), some (.inl j), a3, a4, a5, a6, a7] [.inr (.inr 55), .inl (σ 54 i)] σ _
      refine jw_W_n 1 (i' := 25) (ls' := [some (.inr (.inr 47)), some (.inl i), some (.inl j), a3, a4, a5, a6, a7]) (st' := [.inl j, .inr (.inr 55), .inl (σ 54 i)]) rfl ?_
      refine jw_W_ia rfl rfl (by omega) (by omega) (by omega) ?_
      show jw_W (js_S n) _ md_101 26 [some (.inr (.inr 47)), some (.inl i), some (.inl j), a3, a4, a5, a6, a7] [.inl (σ 55 j), .inl (σ 54 i)] σ _
      refine jw_W_n 2 (i' := 28) (ls' := [some (.inr (.inr 47)), some (.inl i), some (.inl j), a3, a4, a5, a6, a7]) (st' := [.inr (.inr 47), .inl ((σ 54 i) * (σ 55 j))]) rfl ?_
      refine jw_W_gf rfl rfl rfl ?_
      show jw_W (js_S n) _ md_101 29 [some (.inr (.inr 47)), some (.inl i), some (.inl j), a3, a4, a5, a6, a7] [.inr (.inr 55), .inl ((σ 54 i) * (σ 55 j))] σ _
      refine jw_W_n 1 (i' := 30) (ls' := [some (.inr (.inr 47)), some (.inl i), some (.inl j), a3, a4, a5, a6, a7]) (st' := [.inl i, .inr (.inr 55), .inl ((σ 54 i) * (σ 55 j))]) rfl ?_
      refine jw_W_ia rfl rfl (by omega) (by omega) (by omega) ?_
      show jw_W (js_S n) _ md_101 31 [some (.inr (.inr 47)), some (.inl i), some (.inl j), a3, a4, a5, a6, a7] [.inl (σ 55 i), .inl ((σ 54 i) * (σ 55 j))] σ _
      refine jw_W_n 1 (i' := 32) (ls' := [some (.inr (.inr 47)), some (.inl i), some (.inl j), a3, a4, a5, a6, a7]) (st' := [.inr (.inr 47), .inl (σ 55 i), .inl ((σ 54 i) * (σ 55 j))]) rfl ?_
      refine jw_W_gf rfl rfl rfl ?_
      show jw_W (js_S n) _ md_101 33 [some (.inr (.inr 47)), some (.inl i), some (.inl j), a3, a4, a5, a6, a7] [.inr (.inr 54), .inl (σ 55 i), .inl ((σ 54 i) * (σ 55 j))] σ _
      refine jw_W_n 1 (i' := 34) (ls' := [some (.inr (.inr 47)), some (.inl i), some (.inl j), a3, a4, a5, a6, a7]) (st' := [.inl j, .inr (.inr 54), .inl (σ 55 i), .inl ((σ 54 i) * (σ 55 j))]) rfl ?_
      refine jw_W_ia rfl rfl (by omega) (by omega) (by omega) ?_
      show jw_W (js_S n) _ md_101 35 [some (.inr (.inr 47)), some (.inl i), some (.inl j), a3, a4, a5, a6, a7] [.inl (σ 54 j), .inl (σ 55 i), .inl ((σ 54 i) * (σ 55 j))] σ _
      refine jw_W_n 2 (i' := 37) (ls' := [some (.inr (.inr 47)), some (.inl i), some (.inl j), a3, a4, a5, a6, a7]) (st' := [.inl (((σ 54 i) * (σ 55 j)) - ((σ 55 i) * (σ 54 j)))]) rfl ?_
      obtain ⟨x, hx0⟩ : ∃ w, w = ((σ 54 i) * (σ 55 j)) - ((σ 55 i) * (σ 54 j)) := ⟨_, rfl⟩
      rw [← hx0]
      have hx : x = σ0 54 i * σ0 55 j - σ0 55 i * σ0 54 j := by rw [hx0]; simp only [f53, f54, f55]
      refine jw_W_n 2 (i' := 39) (ls' := [some (.inr (.inr 47)), some (.inl i), some (.inl j), some (.inl x), a4, a5, a6, a7]) (st' := [.inr (.inr 47)]) rfl ?_
      refine jw_W_gf rfl rfl rfl ?_
      show jw_W (js_S n) _ md_101 40 [some (.inr (.inr 47)), some (.inl i), some (.inl j), some (.inl x), a4, a5, a6, a7] [.inr (.inr 55)] σ _
      refine jw_W_n 1 (i' := 41) (ls' := [some (.inr (.inr 47)), some (.inl i), some (.inl j), some (.inl x), a4, a5, a6, a7]) (st' := [.inl i, .inr (.inr 55)]) rfl ?_
      refine jw_W_ia rfl rfl (by omega) (by omega) (by omega) ?_
      show jw_W (js_S n) _ md_101 42 [some (.inr (.inr 47)), some (.inl i), some (.inl j), some (.inl x), a4, a5, a6, a7] [.inl (σ 55 i)] σ _
      refine jw_W_n 1 (i' := 43) (ls' := [some (.inr (.inr 47)), some (.inl i), some (.inl j), some (.inl x), a4, a5, a6, a7]) (st' := [.inr (.inr 47), .inl (σ 55 i)]) rfl ?_
      refine jw_W_gf rfl rfl rfl ?_
      show jw_W (js_S n) _ md_101 44 [some (.inr (.inr 47)), some (.inl i), some (.inl j), some (.inl x), a4, a5, a6, a7] [.inr (.inr 53), .inl (σ 55 i)] σ _
      refine jw_W_n 1 (i' := 45) (ls' := [some (.inr (.inr 47)), some (.inl i), some (.inl j), some (.inl x), a4, a5, a6, a7]) (st' := [.inl j, .inr (.inr 53), .inl (σ 55 i)]) rfl ?_
      refine jw_W_ia rfl rfl (by omega) (by omega) (by omega) ?_
      show jw_W (js_S n) _ md_101 46 [some (.inr (.inr 47)), some (.inl i), some (.inl j), some (.inl x), a4, a5, a6, a7] [.inl (σ 53 j), .inl (σ 55 i)] σ _
      refine jw_W_n 2 (i' := 48) (ls' := [some (.inr (.inr 47)), some (.inl i), some (.inl j), some (.inl x), a4, a5, a6, a7]) (st' := [.inr (.inr 47), .inl ((σ 55 i) * (σ 53 j))]) rfl ?_
      refine jw_W_gf rfl rfl rfl ?_
      show jw_W (js_S n) _ md_101 49 [some (.inr (.inr 47)), some (.inl i), some (.inl j), some (.inl x), a4, a5, a6, a7] [.inr (.inr 53), .inl ((σ 55 i) * (σ 53 j))] σ _
      refine jw_W_n 1 (i' := 50) (ls' := [some (.inr (.inr 47)), some (.inl i), some (.inl j), some (.inl x), a4, a5, a6, a7]) (st' := [.inl i, .inr (.inr 53), .inl ((σ 55 i) * (σ 53 j))]) rfl ?_
      refine jw_W_ia rfl rfl (by omega) (by omega) (by omega) ?_
      show jw_W (js_S n) _ md_101 51 [some (.inr (.inr 47)), some (.inl i), some (.inl j), some (.inl x), a4, a5, a6, a7] [.inl (σ 53 i), .inl ((σ 55 i) * (σ 53 j))] σ _
      refine jw_W_n 1 (i' := 52) (ls' := [some (.inr (.inr 47)), some (.inl i), some (.inl j), some (.inl x), a4, a5, a6, a7]) (st' := [.inr (.inr 47), .inl (σ 53 i), .inl ((σ 55 i) * (σ 53 j))]) rfl ?_
      refine jw_W_gf rfl rfl rfl ?_
      show jw_W (js_S n) _ md_101 53 [some (.inr (.inr 47)), some (.inl i), some (.inl j), some (.inl x), a4, a5, a6, a7] [.inr (.inr 55), .inl (σ 53 i), .inl ((σ 55 i) * (σ 53 j))] σ _
      refine jw_W_n 1 (i' := 54) (ls' := [some (.inr (.inr 47)), some (.inl i), some (.inl j), some (.inl x), a4, a5, a6, a7]) (st' := [.inl j, .inr (.inr 55), .inl (σ 53 i), .inl ((σ 55 i) * (σ 53 j))]) rfl ?_
      refine jw_W_ia rfl rfl (by omega) (by omega) (by omega) ?_
      show jw_W (js_S n) _ md_101 55 [some (.inr (.inr 47)), some (.inl i), some (.inl j), some (.inl x), a4, a5, a6, a7] [.inl (σ 55 j), .inl (σ 53 i), .inl ((σ 55 i) * (σ 53 j))] σ _
      refine jw_W_n 2 (i' := 57) (ls' := [some (.inr (.inr 47)), some (.inl i), some (.inl j), some (.inl x), a4, a5, a6, a7]) (st' := [.inl (((σ 55 i) * (σ 53 j)) - ((σ 53 i) * (σ 55 j)))]) rfl ?_
      obtain ⟨y, hy0⟩ : ∃ w, w = ((σ 55 i) * (σ 53 j)) - ((σ 53 i) * (σ 55 j)) := ⟨_, rfl⟩
      rw [← hy0]
      have hy : y = σ0 55 i * σ0 53 j - σ0 53 i * σ0 55 j := by rw [hy0]; simp only [f53, f54, f55]
      refine jw_W_n 2 (i' := 59) (ls' := [some (.inr (.inr 47)), some (.inl i), some (.inl j), some (.inl x), some (.inl y), a5, a6, a7]) (st' := [.inr (.inr 47)]) rfl ?_
      refine jw_W_gf rfl rfl rfl ?_
      show jw_W (js_S n) _ md_101 60 [some (.inr (.inr 47)), some (.inl i), some (.inl j), some (.inl x), some (.inl y), a5, a6, a7] [.inr (.inr 53)] σ _
      refine jw_W_n 1 (i' := 61) (ls' := [some (.inr (.inr 47)), some (.inl i), some (.inl j), some (.inl x), some (.inl y), a5, a6, a7]) (st' := [.inl i, .inr (.inr 53)]) rfl ?_
      refine jw_W_ia rfl rfl (by omega) (by omega) (by omega) ?_
      show jw_W (js_S n) _ md_101 62 [some (.inr (.inr 47)), some (.inl i), some (.inl j), some (.inl x), some (.inl y), a5, a6, a7] [.inl (σ 53 i)] σ _
      refine jw_W_n 1 (i' := 63) (ls' := [some (.inr (.inr 47)), some (.inl i), some (.inl j), some (.inl x), some (.inl y), a5, a6, a7]) (st' := [.inr (.inr 47), .inl (σ 53 i)]) rfl ?_
      refine jw_W_gf rfl rfl rfl ?_
      show jw_W (js_S n) _ md_101 64 [some (.inr (.inr 47)), some (.inl i), some (.inl j), some (.inl x), some (.inl y), a5, a6, a7] [.inr (.inr 54), .inl (σ 53 i)] σ _
      refine jw_W_n 1 (i' := 65) (ls' := [some (.inr (.inr 47)), some (.inl i), some (.inl j), some (.inl x), some (.inl y), a5, a6, a7]) (st' := [.inl j, .inr (.inr 54), .inl (σ 53 i)]) rfl ?_
      refine jw_W_ia rfl rfl (by omega) (by omega) (by omega) ?_
      show jw_W (js_S n) _ md_101 66 [some (.inr (.inr 47)), some (.inl i), some (.inl j), some (.inl x), some (.inl y), a5, a6, a7] [.inl (σ 54 j), .inl (σ 53 i)] σ _
      refine jw_W_n 2 (i' := 68) (ls' := [some (.inr (.inr 47)), some (.inl i), some (.inl j), some (.inl x), some (.inl y), a5, a6, a7]) (st' := [.inr (.inr 47), .inl ((σ 53 i) * (σ 54 j))]) rfl ?_
      refine jw_W_gf rfl rfl rfl ?_
      show jw_W (js_S n) _ md_101 69 [some (.inr (.inr 47)), some (.inl i), some (.inl j), some (.inl x), some (.inl y), a5, a6, a7] [.inr (.inr 54), .inl ((σ 53 i) * (σ 54 j))] σ _
      refine jw_W_n 1 (i' := 70) (ls' := [some (.inr (.inr 47)), some (.inl i), some (.inl j), some (.inl x), some (.inl y), a5, a6, a7]) (st' := [.inl i, .inr (.inr 54), .inl ((σ 53 i) * (σ 54 j))]) rfl ?_
      refine jw_W_ia rfl rfl (by omega) (by omega) (by omega) ?_
      show jw_W (js_S n) _ md_101 71 [some (.inr (.inr 47)), some (.inl i), some (.inl j), some (.inl x), some (.inl y), a5, a6, a7] [.inl (σ 54 i), .inl ((σ 53 i) * (σ 54 j))] σ _
      refine jw_W_n 1 (i' := 72) (ls' := [some (.inr (.inr 47)), some (.inl i), some (.inl j), some (.inl x), some (.inl y), a5, a6, a7]) (st' := [.inr (.inr 47), .inl (σ 54 i), .inl ((σ 53 i) * (σ 54 j))]) rfl ?_
      refine jw_W_gf rfl rfl rfl ?_
      show jw_W (js_S n) _ md_101 73 [some (.inr (.inr 47)), some (.inl i), some (.inl j), some (.inl x), some (.inl y), a5, a6, a7] [.inr (.inr 53), .inl (σ 54 i), .inl ((σ 53 i) * (σ 54 j))] σ _
      refine jw_W_n 1 (i' := 74) (ls' := [some (.inr (.inr 47)), some (.inl i), some (.inl j), some (.inl x), some (.inl y), a5, a6, a7]) (st' := [.inl j, .inr (.inr 53), .inl (σ 54 i), .inl ((σ 53 i) * (σ 54 j))]) rfl ?_
      refine jw_W_ia rfl rfl (by omega) (by omega) (by omega) ?_
      show jw_W (js_S n) _ md_101 75 [some (.inr (.inr 47)), some (.inl i), some (.inl j), some (.inl x), some (.inl y), a5, a6, a7] [.inl (σ 53 j), .inl (σ 54 i), .inl ((σ 53 i) * (σ 54 j))] σ _
      refine jw_W_n 2 (i' := 77) (ls' := [some (.inr (.inr 47)), some (.inl i), some (.inl j), some (.inl x), some (.inl y), a5, a6, a7]) (st' := [.inl (((σ 53 i) * (σ 54 j)) - ((σ 54 i) * (σ 53 j)))]) rfl ?_
      obtain ⟨z, hz0⟩ : ∃ w, w = ((σ 53 i) * (σ 54 j)) - ((σ 54 i) * (σ 53 j)) := ⟨_, rfl⟩
      rw [← hz0]
      have hz : z = σ0 53 i * σ0 54 j - σ0 54 i * σ0 53 j := by rw [hz0]; simp only [f53, f54, f55]
      refine jw_W_n 5 (i' := 82) (ls' := [some (.inr (.inr 47)), some (.inl i), some (.inl j), some (.inl x), some (.inl y), some (.inl z), some (.inl (j + 1)), a7]) (st' := []) rfl ?_
      refine jx_find_k hD hN hb hbd i0 ij (by omega) hx hy hz (fun σ4 P4 v4 H4 => ?_) (σ0 47 1 - (j + 1)).toNat (k := j + 1) (by omega) (by omega) H
      refine jw_W_n 2 (i' := 14) (ls' := [some (.inr (.inr 47)), some (.inl i), some (.inl (j + 1)), some (.inl x), some (.inl y), some (.inl z), some (.inl (σ0 47 1)), v4]) (st' := []) rfl ?_
      exact ih (by omega) (jx_fi_re H4 (fun a b c _ _ _ _ => by unfold jx_bf; omega))
theorem jx_find_i {n : Nat} {σ0 : jw_H} {D : Nat} {Q : Option jw_V → jw_H → Prop} (hD : 3 ≤ D) (hN : 0 ≤ σ0 47 1 ∧ σ0 47 1 ≤ 24) (hb : ∀ i, 0 ≤ i → i < σ0 47 1 → jx_rb (jx_rw σ0 i)) (hbd : ∀ v, ge_V (jx_RL σ0) v → ge_g v = 1 → jx_bd v) (hQ : ∀ σ, jx_fd σ0 σ → Q none σ) : ∀ (f : Nat) {σ : jw_H} {P : List ge_R} {i : Int} {a2 : Option jw_V} {a3 : Option jw_V} {a4 : Option jw_V} {a5 : Option jw_V} {a6 : Option jw_V} {a7 : Option jw_V}, 0 ≤ i → i + f = σ0 47 1 → jx_fi σ0 P i (i + 1) (i + 1 + 1) σ → jw_W (js_S n) D md_101 6 [some (.inr (.inr 47)), some (.inl i), a2, a3, a4, a5, a6, a7] [] σ Q
  | f, σ, P, i, a2, a3, a4, a5, a6, a7, i0, hk, H => by
    have ih : ∀ {σ' : jw_H} {P' : List ge_R} {a2 : Option jw_V} {a3 : Option jw_V} {a4 : Option jw_V} {a5 : Option jw_V} {a6 : Option jw_V} {a7 : Option jw_V}, i < σ0 47 1 → jx_fi σ0 P' (i + 1) (i + 1 + 1) (i + 1 + 1 + 1) σ' → jw_W (js_S n) D md_101 6 [some (.inr (.inr 47)), some (.inl (i + 1)), a2, a3, a4, a5, a6, a7] [] σ' Q := by
      intro σ' P' a2 a3 a4 a5 a6 a7 h1 h2
      match f, hk with
      | 0, hk => omega
      | f + 1, hk => exact jx_find_i hD hN hb hbd hQ f (by omega) (by omega) h2
    have f47 : σ 47 1 = σ0 47 1 := by rw [H.2.2.1 47 (by omega)]
    refine jw_W_n 2 (i' := 8) (ls' := [some (.inr (.inr 47)), some (.inl i), a2, a3, a4, a5, a6, a7]) (st' := [.inr (.inr 47), .inl i]) rfl ?_
    refine jw_W_gf rfl rfl rfl ?_
    show jw_W (js_S n) _ md_101 9 [some (.inr (.inr 47)), some (.inl i), a2, a3, a4, a5, a6, a7] [.inl (σ 47 1), .inl i] σ _
    refine jw_W_ic rfl (by unfold jw_rg; omega) (by unfold jw_rg; omega) (fun hc1 => ?_) (fun hc1 => ?_)
    · have hc1 : i ≥ (σ 47 1) := hc1
      refine jw_W_re rfl ?_
      have hkl : i = σ0 47 1 := by omega
      subst hkl
      exact hQ _ (jx_fi_end H)
    · have hc1 : ¬ (i ≥ (σ 47 1)) := hc1
      refine jw_W_n 4 (i' := 14) (ls' := [some (.inr (.inr 47)), some (.inl i), some (.inl (i + 1)), a3, a4, a5, a6, a7]) (st' := []) rfl ?_
      refine jx_find_j hD hN hb hbd i0 (fun σ4 P4 v3 v4 v5 v6 v7 H4 => ?_) (σ0 47 1 - (i + 1)).toNat (j := i + 1) (by omega) (by omega) H
      refine jw_W_n 2 (i' := 6) (ls' := [some (.inr (.inr 47)), some (.inl (i + 1)), some (.inl (σ0 47 1)), v3, v4, v5, v6, v7]) (st' := []) rfl ?_
      exact ih (by omega) (jx_fi_re H4 (fun a b c _ _ _ _ => by unfold jx_bf; omega))
theorem jx_find {n : Nat} {σ : jw_H} (hN : 0 ≤ σ 47 1 ∧ σ 47 1 ≤ 24) (hb : ∀ i, 0 ≤ i → i < σ 47 1 → jx_rb (jx_rw σ i)) (hbd : ∀ v, ge_V (jx_RL σ) v → ge_g v = 1 → jx_bd v)  : jw_T (js_S n) 4 101 [.inr (.inr 47)] σ (fun r σ' => r = none ∧ jx_fd σ σ') := by
  refine jw_T_of (D := 3) (M := mm_101) rfl (Nat.le_of_ble_eq_true rfl) (ls0 := [some (.inr (.inr 47)), none, none, none, none, none, none, none]) rfl ?_ (by rintro _ _ ⟨rfl, -⟩; rfl)
  refine jw_W_n 1 (i' := 1) (ls' := [some (.inr (.inr 47)), none, none, none, none, none, none, none]) (st' := [.inr (.inr 47)]) rfl ?_
  refine jw_W_gf rfl rfl rfl ?_
  show jw_W (js_S n) _ md_101 2 [some (.inr (.inr 47)), none, none, none, none, none, none, none] [.inr (.inr 48)] σ _
  refine jw_W_n 1 (i' := 3) (ls' := [some (.inr (.inr 47)), none, none, none, none, none, none, none]) (st' := [.inl 0, .inr (.inr 48)]) rfl ?_
  refine jw_W_pf (a := 0) rfl (by omega) rfl rfl rfl rfl rfl ?_
  refine jw_W_n 2 (i' := 6) (ls' := [some (.inr (.inr 47)), some (.inl 0), none, none, none, none, none, none]) (st' := []) rfl ?_
  refine jx_find_i (D := 3) (by omega) hN hb hbd (fun σ4 h4 => ⟨rfl, h4⟩) (σ 47 1).toNat (P := []) (i := 0) (by omega) (by omega) ⟨⟨jw_up_eq _ _ _ _, fun i x hx => by simp at hx⟩, List.Pairwise.nil, fun o ho => jw_up_out _ _ _ (by omega), fun v => ⟨fun hv => by simp at hv, ?_⟩⟩
  rintro ⟨a, b, c, h1, h2, h3, h4, h5, h6⟩
  exact absurd h5 (by unfold jx_bf; omega)

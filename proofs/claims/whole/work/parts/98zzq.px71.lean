/-! ===== turn: shares kept in order ===== -/
/-- a fraction below another one -/
def jn_lt (a b : Int × Int) : Prop := a.1 * b.2 < b.1 * a.2
def jn_sm (a : Int × Int) : Prop := (0 < a.1 ∧ a.1 ≤ 9000000) ∧ (0 < a.2 ∧ a.2 ≤ 9000000)
theorem jn_lt_tr {a b c : Int × Int} (ha : 0 < a.2) (hb : 0 < b.2) (hc : 0 < c.2) (h1 : jn_lt a b) (h2 : jn_lt b c) : jn_lt a c := by
  unfold jn_lt at *
  exact jn_fl3 ha hb hc (Int.le_of_lt h1) h2
theorem jn_lt_nl {a b c : Int × Int} (ha : 0 < a.2) (hb : 0 < b.2) (hc : 0 < c.2) (h1 : ¬ jn_lt b a) (h2 : jn_lt b c) : jn_lt a c := by
  unfold jn_lt at *
  exact jn_fl3 ha hb hc (by omega) h2
def jn_ins (L : List (Int × Int)) (k : Nat) (x : Int × Int) : List (Int × Int) := L.take k ++ x :: L.drop k
theorem jn_ins_mem {L : List (Int × Int)} {k : Nat} {x y : Int × Int} : y ∈ jn_ins L k x ↔ y ∈ L ∨ y = x := by
  unfold jn_ins
  rw [List.mem_append, List.mem_cons]
  have h : y ∈ L ↔ y ∈ L.take k ∨ y ∈ L.drop k := by
    rw [← List.mem_append, List.take_append_drop]
  rw [h]
  constructor
  · rintro (h | h | h)
    · exact .inl (.inl h)
    · exact .inr h
    · exact .inl (.inr h)
  · rintro ((h | h) | h)
    · exact .inl h
    · exact .inr (.inr h)
    · exact .inr (.inl h)
theorem jn_ins_so {L : List (Int × Int)} {k : Nat} {x : Int × Int} (hs : L.Pairwise jn_lt) (h1 : ∀ (i : Nat) (y : Int × Int), L[i]? = some y → i < k → jn_lt y x) (h2 : ∀ (i : Nat) (y : Int × Int), L[i]? = some y → k ≤ i → jn_lt x y) : (jn_ins L k x).Pairwise jn_lt := by
  unfold jn_ins
  have h3 := hs
  rw [← List.take_append_drop k L] at h3
  obtain ⟨a1, a2, a3⟩ := List.pairwise_append.mp h3
  refine List.pairwise_append.mpr ⟨a1, List.pairwise_cons.mpr ⟨fun y hy => ?_, a2⟩, fun y hy z hz => ?_⟩
  · obtain ⟨i, hi, e⟩ := List.getElem_of_mem hy
    refine h2 (k + i) y ?_ (by omega)
    rw [← List.getElem?_drop, List.getElem?_eq_getElem hi, e]
  · obtain ⟨i, hi, e⟩ := List.getElem_of_mem hy
    have hik : i < k := by
      rw [List.length_take] at hi
      omega
    have hyx : jn_lt y x := by
      refine h1 i y ?_ hik
      rw [← List.getElem?_take_of_lt hik, List.getElem?_eq_getElem hi, e]
    rcases List.mem_cons.mp hz with hz | hz
    · rw [hz]
      exact hyx
    · exact a3 y hy z hz
theorem jn_ins_get {L : List (Int × Int)} {k j : Nat} {x y : Int × Int} (hk : k ≤ L.length) (h : (jn_ins L k x)[j]? = some y) : (j < k ∧ L[j]? = some y) ∨ (j = k ∧ y = x) ∨ (k < j ∧ L[j - 1]? = some y) := by
  unfold jn_ins at h
  by_cases h1 : j < k
  · rw [List.getElem?_append_left (by rw [List.length_take]; omega), List.getElem?_take_of_lt h1] at h
    exact .inl ⟨h1, h⟩
  · rw [List.getElem?_append_right (by rw [List.length_take]; omega), List.length_take, Nat.min_eq_left hk] at h
    by_cases h2 : j = k
    · rw [h2, Nat.sub_self] at h
      cases h
      exact .inr (.inl ⟨h2, rfl⟩)
    · obtain ⟨m, hm⟩ : ∃ m, j - k = m + 1 := ⟨j - k - 1, by omega⟩
      rw [hm, List.getElem?_cons_succ, List.getElem?_drop] at h
      exact .inr (.inr ⟨by omega, by rw [show j - 1 = k + m by omega]; exact h⟩)
theorem jn_ins_len {L : List (Int × Int)} {k : Nat} {x : Int × Int} (hk : k ≤ L.length) : (jn_ins L k x).length = L.length + 1 := by
  unfold jn_ins
  rw [List.length_append, List.length_cons, List.length_take, List.length_drop]
  omega
/-- two rows and a count hold such a list -/
def jn_tw (a b f : Nat) (j : Int) (σ : jw_H) (L : List (Int × Int)) : Prop := σ f j = (L.length : Int) ∧ ∀ (k : Nat) (y : Int × Int), L[k]? = some y → σ a (k : Int) = y.1 ∧ σ b (k : Int) = y.2
theorem jn_tw_at {a b f : Nat} {j : Int} {σ : jw_H} {L : List (Int × Int)} (h : jn_tw a b f j σ L) {k : Int} (k0 : 0 ≤ k) (k1 : k < (L.length : Int)) : ∃ y, L[k.toNat]? = some y ∧ y ∈ L ∧ σ a k = y.1 ∧ σ b k = y.2 := by
  have hg := List.getElem?_eq_getElem (l := L) (i := k.toNat) (by omega)
  have h2 := h.2 _ _ hg
  rw [Int.toNat_of_nonneg k0] at h2
  exact ⟨_, hg, List.getElem_mem _, h2⟩
/-- moved on by one from a place on -/
def jn_mv (a b : Nat) (σ : jw_H) (L : List (Int × Int)) (t : Int) : Prop := ∀ (k : Nat) (y : Int × Int), L[k]? = some y → ((k : Int) < t → σ a (k : Int) = y.1 ∧ σ b (k : Int) = y.2) ∧ (t ≤ (k : Int) → σ a ((k : Int) + 1) = y.1 ∧ σ b ((k : Int) + 1) = y.2)
theorem jn_mv_0 {a b f : Nat} {j : Int} {σ : jw_H} {L : List (Int × Int)} (h : jn_tw a b f j σ L) : jn_mv a b σ L (L.length : Int) := fun k y hk => ⟨fun _ => h.2 k y hk, fun hh => by have := (List.getElem?_eq_some_iff.mp hk).1; omega⟩
theorem jn_mv_s {a b : Nat} (hab : a ≠ b) {σ : jw_H} {L : List (Int × Int)} {t : Int} (t0 : 0 < t) (t1 : t ≤ (L.length : Int)) (h : jn_mv a b σ L t) : jn_mv a b (jw_up (jw_up σ a t (σ a (t + -1))) b t (σ b (t + -1))) L (t + -1) := by
  intro k y hk
  have hk1 := (List.getElem?_eq_some_iff.mp hk).1
  have h1 := h k y hk
  refine ⟨fun hh => ?_, fun hh => ?_⟩
  · rw [jw_up_ne _ (by omega), jw_up_ne _ (by omega), jw_up_ne _ (by omega), jw_up_ne _ (by omega)]
    exact h1.1 (by omega)
  · by_cases e : (k : Int) = t + -1
    · have h2 := h1.1 (by omega)
      rw [show (k : Int) + 1 = t by omega, jw_up_ne _ (by omega), jw_up_eq, jw_up_eq, ← e]
      exact h2
    · rw [jw_up_ne _ (by omega), jw_up_ne _ (by omega), jw_up_ne _ (by omega), jw_up_ne _ (by omega)]
      exact h1.2 (by omega)
theorem jn_mv_end {a b f : Nat} {j : Int} (hab : a ≠ b) (haf : a ≠ f) (hbf : b ≠ f) {σ : jw_H} {L : List (Int × Int)} {t c : Int} {x : Int × Int} (t0 : 0 ≤ t) (t1 : t ≤ (L.length : Int)) (h : jn_mv a b σ L t) (hc : c = (L.length : Int) + 1) : jn_tw a b f j (jw_up (jw_up (jw_up σ a t x.1) b t x.2) f j c) (jn_ins L t.toNat x) := by
  refine ⟨?_, fun k y hk => ?_⟩
  · rw [jw_up_eq, jn_ins_len (by omega), hc]
    omega
  · have e1 : ∀ w, jw_up (jw_up (jw_up σ a t x.1) b t x.2) f j c a w = jw_up σ a t x.1 a w := fun w => by rw [jw_up_ne _ (by omega), jw_up_ne _ (by omega)]
    have e2 : ∀ w, jw_up (jw_up (jw_up σ a t x.1) b t x.2) f j c b w = jw_up (jw_up σ a t x.1) b t x.2 b w := fun w => by rw [jw_up_ne _ (by omega)]
    rw [e1, e2]
    rcases jn_ins_get (by omega) hk with ⟨h1, h2⟩ | ⟨h1, h2⟩ | ⟨h1, h2⟩
    · have h3 := (h k y h2).1 (by omega)
      rw [jw_up_ne _ (by omega), jw_up_ne _ (by omega), jw_up_ne _ (by omega)]
      exact h3
    · rw [h2, show (k : Int) = t by omega, jw_up_eq, jw_up_eq]
      exact ⟨rfl, rfl⟩
    · have h3 := (h (k - 1) y h2).2 (by omega)
      rw [show ((k - 1 : Nat) : Int) + 1 = (k : Int) by omega] at h3
      rw [jw_up_ne _ (by omega), jw_up_ne _ (by omega), jw_up_ne _ (by omega)]
      exact h3
theorem jn_mulp {a b : Int} (ha : 0 < a ∧ a ≤ 9000000) (hb : 0 < b ∧ b ≤ 9000000) : 0 < a * b ∧ a * b ≤ 81000000000000 := ⟨Int.mul_pos ha.1 hb.1, by
  have := Int.mul_le_mul ha.2 hb.2 (Int.le_of_lt hb.1) (show (0 : Int) ≤ 9000000 by omega)
  omega⟩
theorem jx_tin_1 {n : Nat} {σ : jw_H} {D : Nat} {Q : Option jw_V → jw_H → Prop} {u l : Int} (hx : jn_sm (u, l)) {L : List (Int × Int)} (hLs : ∀ y ∈ L, jn_sm y) (hL : jn_tw 95 96 92 2 σ L) {a6 a7 : Option jw_V} (hQ : ∀ k : Int, 0 ≤ k → k ≤ (L.length : Int) → (∀ (i : Nat) (z : Int × Int), L[i]? = some z → k ≤ (i : Int) → jn_lt (u, l) z) → (k = 0 ∨ ∃ y, L[k.toNat - 1]? = some y ∧ ¬ jn_lt (u, l) y) → jw_W (js_S n) D md_93 25 [some (.inr (.inr 92)), some (.inr (.inl u)), none, some (.inr (.inl l)), none, some (.inl k), a6, a7] [] σ Q) (hl64 : L.length < 64) : ∀ (f : Nat) {k : Int}, k = f → k ≤ (L.length : Int) → (∀ (i : Nat) (z : Int × Int), L[i]? = some z → k ≤ (i : Int) → jn_lt (u, l) z) → jw_W (js_S n) D md_93 3 [some (.inr (.inr 92)), some (.inr (.inl u)), none, some (.inr (.inl l)), none, some (.inl k), a6, a7] [] σ Q
  | f, k, hk, hk1, H => by
    have ih : 0 < k → (∀ (i : Nat) (z : Int × Int), L[i]? = some z → k - 1 ≤ (i : Int) → jn_lt (u, l) z) → jw_W (js_S n) D md_93 3 [some (.inr (.inr 92)), some (.inr (.inl u)), none, some (.inr (.inl l)), none, some (.inl (k + -1)), a6, a7] [] σ Q := by
      intro h1 h2
      match f, hk with
      | 0, hk => omega
      | f + 1, hk => exact jx_tin_1 hx hLs hL hQ hl64 f (by omega) (by omega) h2
    have k0 : 0 ≤ k := by omega
    have hL1 := hL.1
    refine jw_W_n 1 (i' := 4) (ls' := [some (.inr (.inr 92)), some (.inr (.inl u)), none, some (.inr (.inl l)), none, some (.inl k), a6, a7]) (st' := [.inl k]) rfl ?_
    refine jw_W_if rfl (by unfold jw_rg; omega) (fun hc1 => ?_) (fun hc1 => ?_)
    · have hc1 : k ≤ 0 := hc1
      first
        | exact hQ k k0 hk1 H (.inl (by omega))
        | exact hQ k k0 hk1 H (.inr ⟨y, by rw [show (k - 1).toNat = k.toNat - 1 by omega] at hy; exact hy, fun hh => by unfold jn_lt at hh; simp only at hh; omega⟩)
    · have hc1 : ¬ (k ≤ 0) := hc1
      refine jw_W_n 2 (i' := 7) (ls' := [some (.inr (.inr 92)), some (.inr (.inl u)), none, some (.inr (.inl l)), none, some (.inl k), a6, a7]) (st' := [.inr (.inr 92), .inr (.inl u)]) rfl ?_
      refine jw_W_gf rfl rfl rfl ?_
      show jw_W (js_S n) _ md_93 8 [some (.inr (.inr 92)), some (.inr (.inl u)), none, some (.inr (.inl l)), none, some (.inl k), a6, a7] [.inr (.inr 96), .inr (.inl u)] σ _
      refine jw_W_n 3 (i' := 11) (ls' := [some (.inr (.inr 92)), some (.inr (.inl u)), none, some (.inr (.inl l)), none, some (.inl k), a6, a7]) (st' := [.inl (k - 1), .inr (.inr 96), .inr (.inl u)]) rfl ?_
      refine jw_W_la rfl rfl (by omega) (by omega) (by omega) ?_
      show jw_W (js_S n) _ md_93 12 [some (.inr (.inr 92)), some (.inr (.inl u)), none, some (.inr (.inl l)), none, some (.inl k), a6, a7] [.inr (.inl (σ 96 (k - 1))), .inr (.inl u)] σ _
      obtain ⟨y, hy, hym, hy1, hy2⟩ := jn_tw_at hL (k := k - 1) (by omega) (by omega)
      have hys := hLs y hym
      have m1 := jn_mulp hx.1 hys.2
      have m2 := jn_mulp hys.1 hx.2
      simp only at m1 m2
      rw [hy2]
      refine jw_W_n 2 (i' := 14) (ls' := [some (.inr (.inr 92)), some (.inr (.inl u)), none, some (.inr (.inl l)), none, some (.inl k), a6, a7]) (st' := [.inr (.inr 92), .inr (.inl (u * y.2))]) rfl ?_
      refine jw_W_gf rfl rfl rfl ?_
      show jw_W (js_S n) _ md_93 15 [some (.inr (.inr 92)), some (.inr (.inl u)), none, some (.inr (.inl l)), none, some (.inl k), a6, a7] [.inr (.inr 95), .inr (.inl (u * y.2))] σ _
      refine jw_W_n 3 (i' := 18) (ls' := [some (.inr (.inr 92)), some (.inr (.inl u)), none, some (.inr (.inl l)), none, some (.inl k), a6, a7]) (st' := [.inl (k - 1), .inr (.inr 95), .inr (.inl (u * y.2))]) rfl ?_
      refine jw_W_la rfl rfl (by omega) (by omega) (by omega) ?_
      show jw_W (js_S n) _ md_93 19 [some (.inr (.inr 92)), some (.inr (.inl u)), none, some (.inr (.inl l)), none, some (.inl k), a6, a7] [.inr (.inl (σ 95 (k - 1))), .inr (.inl (u * y.2))] σ _
      rw [hy1]
      refine jw_W_n 2 (i' := 21) (ls' := [some (.inr (.inr 92)), some (.inr (.inl u)), none, some (.inr (.inl l)), none, some (.inl k), a6, a7]) (st' := [.inr (.inl (y.1 * l)), .inr (.inl (u * y.2))]) rfl ?_
      refine jw_W_lc rfl rfl (by unfold jw_rgl; omega) (by unfold jw_rgl; omega) (fun hc2 => ?_) (fun hc2 => ?_)
      · have hc2 : (u * y.2) ≥ (y.1 * l) := hc2
        first
          | exact hQ k k0 hk1 H (.inl (by omega))
          | exact hQ k k0 hk1 H (.inr ⟨y, by rw [show (k - 1).toNat = k.toNat - 1 by omega] at hy; exact hy, fun hh => by unfold jn_lt at hh; simp only at hh; omega⟩)
      · have hc2 : ¬ ((u * y.2) ≥ (y.1 * l)) := hc2
        refine jw_W_n 2 (i' := 3) (ls' := [some (.inr (.inr 92)), some (.inr (.inl u)), none, some (.inr (.inl l)), none, some (.inl (k + ((-1)))), a6, a7]) (st' := []) rfl ?_
        refine ih (by omega) (fun i z hz hi => ?_)
        by_cases e : (i : Int) = k - 1
        · rw [show i = (k - 1).toNat by omega, hy] at hz
          cases hz
          unfold jn_lt
          simp only
          omega
        · exact H i z hz (by omega)
theorem jn_red_eq {a b : Int × Int} (ha : 0 < a.2) (hb : 0 < b.2) (ra : jx_fr a.1 a.2 = a) (rb : jx_fr b.1 b.2 = b) (h : a.1 * b.2 = b.1 * a.2) : a = b := by
  rw [← ra, ← rb]
  exact jx_fr_eq ha hb h
theorem jn_below {L : List (Int × Int)} {k : Nat} {x y : Int × Int} (hs : L.Pairwise jn_lt) (hp : ∀ y ∈ L, 0 < y.2) (hx : 0 < x.2) (hy : L[k]? = some y) (h : jn_lt y x) : ∀ (i : Nat) (z : Int × Int), L[i]? = some z → i < k + 1 → jn_lt z x := by
  intro i z hz hi
  by_cases e : i = k
  · rw [e, hy] at hz
    cases hz
    exact h
  · have h1 := (List.getElem?_eq_some_iff.mp hz)
    have h2 := (List.getElem?_eq_some_iff.mp hy)
    obtain ⟨g1, e1⟩ := h1
    obtain ⟨g2, e2⟩ := h2
    have h3 := List.pairwise_iff_getElem.mp hs i k g1 g2 (by omega)
    rw [e1, e2] at h3
    exact jn_lt_tr (hp z (by rw [← e1]; exact List.getElem_mem _)) (hp y (by rw [← e2]; exact List.getElem_mem _)) hx h3 h
/-- what keeping a share leaves as it was -/
def jn_f95 (σ0 σ : jw_H) : Prop := (∀ c, c ≠ 92 → c ≠ 95 → c ≠ 96 → σ c = σ0 c) ∧ ∀ j, j ≠ 2 → σ 92 j = σ0 92 j
theorem jn_f95_tr {σ σ1 σ2 : jw_H} (a : jn_f95 σ σ1) (b : jn_f95 σ1 σ2) : jn_f95 σ σ2 := ⟨fun c h1 h2 h3 => (b.1 c h1 h2 h3).trans (a.1 c h1 h2 h3), fun j h => (b.2 j h).trans (a.2 j h)⟩
theorem jn_f95_rf (σ : jw_H) : jn_f95 σ σ := ⟨fun _ _ _ _ => rfl, fun _ _ => rfl⟩
theorem jn_f95_up {σ0 σ : jw_H} {o : Nat} {j v : Int} (h : jn_f95 σ0 σ) (ho : o = 95 ∨ o = 96 ∨ (o = 92 ∧ j = 2)) : jn_f95 σ0 (jw_up σ o j v) := by
  refine ⟨fun c h1 h2 h3 => ?_, fun j' hj => ?_⟩
  · rw [jw_up_out _ _ _ (by omega)]
    exact h.1 c h1 h2 h3
  · rw [jw_up_ne _ (by omega)]
    exact h.2 j' hj
theorem jx_tin_2 {n : Nat} {σ0 : jw_H} {D : Nat} {u l k a6 : Int} {L : List (Int × Int)} (hs : L.Pairwise jn_lt) (hl64 : L.length < 64) (k0 : 0 ≤ k) (hk1 : k ≤ (L.length : Int)) (hlo : ∀ (i : Nat) (y : Int × Int), L[i]? = some y → i < k.toNat → jn_lt y (u, l)) (hhi : ∀ (i : Nat) (y : Int × Int), L[i]? = some y → k.toNat ≤ i → jn_lt (u, l) y) : ∀ (f : Nat) {σ : jw_H} {t : Int}, t - k = f → t ≤ (L.length : Int) → jn_f95 σ0 σ → jn_mv 95 96 σ L t → σ 92 2 = (L.length : Int) → jw_W (js_S n) D md_93 59 [some (.inr (.inr 92)), some (.inr (.inl u)), none, some (.inr (.inl l)), none, some (.inl k), some (.inl a6), some (.inl t)] [] σ (fun r σ' => r = none ∧ jn_f95 σ0 σ' ∧ ∃ L', jn_tw 95 96 92 2 σ' L' ∧ L'.Pairwise jn_lt ∧ ∀ y, y ∈ L' ↔ y ∈ L ∨ y = (u, l))
  | f, σ, t, hk, ht1, hfr, hM, hcn => by
    have ih : ∀ {σ' : jw_H}, k < t → jn_f95 σ0 σ' → jn_mv 95 96 σ' L (t + -1) → σ' 92 2 = (L.length : Int) → jw_W (js_S n) D md_93 59 [some (.inr (.inr 92)), some (.inr (.inl u)), none, some (.inr (.inl l)), none, some (.inl k), some (.inl a6), some (.inl (t + -1))] [] σ' (fun r σ' => r = none ∧ jn_f95 σ0 σ' ∧ ∃ L', jn_tw 95 96 92 2 σ' L' ∧ L'.Pairwise jn_lt ∧ ∀ y, y ∈ L' ↔ y ∈ L ∨ y = (u, l)) := by
      intro σ' h1 h2 h3 h4
      match f, hk with
      | 0, hk => omega
      | f + 1, hk => exact jx_tin_2 hs hl64 k0 hk1 hlo hhi f (by omega) (by omega) h2 h3 h4
    refine jw_W_n 2 (i' := 61) (ls' := [some (.inr (.inr 92)), some (.inr (.inl u)), none, some (.inr (.inl l)), none, some (.inl k), some (.inl a6), some (.inl t)]) (st' := [.inl k, .inl t]) rfl ?_
    refine jw_W_ic rfl (by unfold jw_rg; omega) (by unfold jw_rg; omega) (fun hc1 => ?_) (fun hc1 => ?_)
    · have hc1 : t ≤ k := hc1
      refine jw_W_n 1 (i' := 85) (ls' := [some (.inr (.inr 92)), some (.inr (.inl u)), none, some (.inr (.inl l)), none, some (.inl k), some (.inl a6), some (.inl t)]) (st' := [.inr (.inr 92)]) rfl ?_
      refine jw_W_gf rfl rfl rfl ?_
      show jw_W (js_S n) _ md_93 86 [some (.inr (.inr 92)), some (.inr (.inl u)), none, some (.inr (.inl l)), none, some (.inl k), some (.inl a6), some (.inl t)] [.inr (.inr 95)] σ _
      refine jw_W_n 2 (i' := 88) (ls' := [some (.inr (.inr 92)), some (.inr (.inl u)), none, some (.inr (.inl l)), none, some (.inl k), some (.inl a6), some (.inl t)]) (st' := [.inr (.inl u), .inl k, .inr (.inr 95)]) rfl ?_
      refine jw_W_ls rfl (by omega) rfl (by omega) (by omega) (by omega) ?_
      refine jw_W_n 1 (i' := 90) (ls' := [some (.inr (.inr 92)), some (.inr (.inl u)), none, some (.inr (.inl l)), none, some (.inl k), some (.inl a6), some (.inl t)]) (st' := [.inr (.inr 92)]) rfl ?_
      refine jw_W_gf rfl rfl rfl ?_
      show jw_W (js_S n) _ md_93 91 [some (.inr (.inr 92)), some (.inr (.inl u)), none, some (.inr (.inl l)), none, some (.inl k), some (.inl a6), some (.inl t)] [.inr (.inr 96)] ((jw_up σ 95 k u)) _
      refine jw_W_n 2 (i' := 93) (ls' := [some (.inr (.inr 92)), some (.inr (.inl u)), none, some (.inr (.inl l)), none, some (.inl k), some (.inl a6), some (.inl t)]) (st' := [.inr (.inl l), .inl k, .inr (.inr 96)]) rfl ?_
      refine jw_W_ls rfl (by omega) rfl (by omega) (by omega) (by omega) ?_
      refine jw_W_n 2 (i' := 96) (ls' := [some (.inr (.inr 92)), some (.inr (.inl u)), none, some (.inr (.inl l)), none, some (.inl k), some (.inl a6), some (.inl t)]) (st' := [.inr (.inr 92), .inr (.inr 92)]) rfl ?_
      refine jw_W_gf rfl rfl rfl ?_
      show jw_W (js_S n) _ md_93 97 [some (.inr (.inr 92)), some (.inr (.inl u)), none, some (.inr (.inl l)), none, some (.inl k), some (.inl a6), some (.inl t)] [.inl (σ 92 2), .inr (.inr 92)] ((jw_up (jw_up σ 95 k u) 96 k l)) _
      refine jw_W_n 2 (i' := 99) (ls' := [some (.inr (.inr 92)), some (.inr (.inl u)), none, some (.inr (.inl l)), none, some (.inl k), some (.inl a6), some (.inl t)]) (st' := [.inl (σ 92 2 + 1), .inr (.inr 92)]) rfl ?_
      refine jw_W_pf (a := σ 92 2 + 1) rfl (by omega) rfl rfl rfl rfl rfl ?_
      refine jw_W_re rfl ?_
      have hkt : t = k := by omega
      subst hkt
      exact ⟨rfl, jn_f95_up (jn_f95_up (jn_f95_up hfr (by omega)) (by omega)) (by omega), _, jn_mv_end (x := (u, l)) (by decide) (by decide) (by decide) k0 hk1 hM (by omega), jn_ins_so hs hlo hhi, fun y => jn_ins_mem⟩
    · have hc1 : ¬ (t ≤ k) := hc1
      refine jw_W_n 1 (i' := 63) (ls' := [some (.inr (.inr 92)), some (.inr (.inl u)), none, some (.inr (.inl l)), none, some (.inl k), some (.inl a6), some (.inl t)]) (st' := [.inr (.inr 92)]) rfl ?_
      refine jw_W_gf rfl rfl rfl ?_
      show jw_W (js_S n) _ md_93 64 [some (.inr (.inr 92)), some (.inr (.inl u)), none, some (.inr (.inl l)), none, some (.inl k), some (.inl a6), some (.inl t)] [.inr (.inr 95)] σ _
      refine jw_W_n 2 (i' := 66) (ls' := [some (.inr (.inr 92)), some (.inr (.inl u)), none, some (.inr (.inl l)), none, some (.inl k), some (.inl a6), some (.inl t)]) (st' := [.inr (.inr 92), .inl t, .inr (.inr 95)]) rfl ?_
      refine jw_W_gf rfl rfl rfl ?_
      show jw_W (js_S n) _ md_93 67 [some (.inr (.inr 92)), some (.inr (.inl u)), none, some (.inr (.inl l)), none, some (.inl k), some (.inl a6), some (.inl t)] [.inr (.inr 95), .inl t, .inr (.inr 95)] σ _
      refine jw_W_n 3 (i' := 70) (ls' := [some (.inr (.inr 92)), some (.inr (.inl u)), none, some (.inr (.inl l)), none, some (.inl k), some (.inl a6), some (.inl t)]) (st' := [.inl (t - 1), .inr (.inr 95), .inl t, .inr (.inr 95)]) rfl ?_
      refine jw_W_la rfl rfl (by omega) (by omega) (by omega) ?_
      show jw_W (js_S n) _ md_93 71 [some (.inr (.inr 92)), some (.inr (.inl u)), none, some (.inr (.inl l)), none, some (.inl k), some (.inl a6), some (.inl t)] [.inr (.inl (σ 95 (t - 1))), .inl t, .inr (.inr 95)] σ _
      refine jw_W_ls rfl (by omega) rfl (by omega) (by omega) (by omega) ?_
      refine jw_W_n 1 (i' := 73) (ls' := [some (.inr (.inr 92)), some (.inr (.inl u)), none, some (.inr (.inl l)), none, some (.inl k), some (.inl a6), some (.inl t)]) (st' := [.inr (.inr 92)]) rfl ?_
      refine jw_W_gf rfl rfl rfl ?_
      show jw_W (js_S n) _ md_93 74 [some (.inr (.inr 92)), some (.inr (.inl u)), none, some (.inr (.inl l)), none, some (.inl k), some (.inl a6), some (.inl t)] [.inr (.inr 96)] ((jw_up σ 95 t (σ 95 (t - 1)))) _
      refine jw_W_n 2 (i' := 76) (ls' := [some (.inr (.inr 92)), some (.inr (.inl u)), none, some (.inr (.inl l)), none, some (.inl k), some (.inl a6), some (.inl t)]) (st' := [.inr (.inr 92), .inl t, .inr (.inr 96)]) rfl ?_
      refine jw_W_gf rfl rfl rfl ?_
      show jw_W (js_S n) _ md_93 77 [some (.inr (.inr 92)), some (.inr (.inl u)), none, some (.inr (.inl l)), none, some (.inl k), some (.inl a6), some (.inl t)] [.inr (.inr 96), .inl t, .inr (.inr 96)] ((jw_up σ 95 t (σ 95 (t - 1)))) _
      refine jw_W_n 3 (i' := 80) (ls' := [some (.inr (.inr 92)), some (.inr (.inl u)), none, some (.inr (.inl l)), none, some (.inl k), some (.inl a6), some (.inl t)]) (st' := [.inl (t - 1), .inr (.inr 96), .inl t, .inr (.inr 96)]) rfl ?_
      refine jw_W_la rfl rfl (by omega) (by omega) (by omega) ?_
      show jw_W (js_S n) _ md_93 81 [some (.inr (.inr 92)), some (.inr (.inl u)), none, some (.inr (.inl l)), none, some (.inl k), some (.inl a6), some (.inl t)] [.inr (.inl (σ 96 (t - 1))), .inl t, .inr (.inr 96)] ((jw_up σ 95 t (σ 95 (t - 1)))) _
      refine jw_W_ls rfl (by omega) rfl (by omega) (by omega) (by omega) ?_
      refine jw_W_n 2 (i' := 59) (ls' := [some (.inr (.inr 92)), some (.inr (.inl u)), none, some (.inr (.inl l)), none, some (.inl k), some (.inl a6), some (.inl (t + ((-1))))]) (st' := []) rfl ?_
      exact ih (by omega) (jn_f95_up (jn_f95_up hfr (by omega)) (by omega)) (jn_mv_s (by decide) (by omega) ht1 hM) (by rw [jw_up_ne _ (by omega), jw_up_ne _ (by omega)]; exact hcn)
theorem jx_tins {n : Nat} {σ : jw_H} {u l : Int} (hx : jn_sm (u, l)) (hxr : jx_fr u l = (u, l)) {L : List (Int × Int)} (hLs : ∀ y ∈ L, jn_sm y) (hLr : ∀ y ∈ L, jx_fr y.1 y.2 = y) (hs : L.Pairwise jn_lt) (hL : jn_tw 95 96 92 2 σ L) (hl64 : L.length < 64) : jw_T (js_S n) 1 93 [.inr (.inr 92), .inr (.inl u), .inr (.inl l)] σ (fun r σ' => r = none ∧ jn_f95 σ σ' ∧ ∃ L', jn_tw 95 96 92 2 σ' L' ∧ L'.Pairwise jn_lt ∧ ∀ y, y ∈ L' ↔ y ∈ L ∨ y = (u, l)) := by
  refine jw_T_of (D := 0) (M := mm_93) rfl (Nat.le_of_ble_eq_true rfl) (ls0 := [some (.inr (.inr 92)), some (.inr (.inl u)), none, some (.inr (.inl l)), none, none, none, none]) rfl ?_ (by rintro _ _ ⟨rfl, -⟩; rfl)
  have hL1 := hL.1
  refine jw_W_n 1 (i' := 1) (ls' := [some (.inr (.inr 92)), some (.inr (.inl u)), none, some (.inr (.inl l)), none, none, none, none]) (st' := [.inr (.inr 92)]) rfl ?_
  refine jw_W_gf rfl rfl rfl ?_
  show jw_W (js_S n) _ md_93 2 [some (.inr (.inr 92)), some (.inr (.inl u)), none, some (.inr (.inl l)), none, none, none, none] [.inl (σ 92 2)] σ _
  refine jw_W_n 1 (i' := 3) (ls' := [some (.inr (.inr 92)), some (.inr (.inl u)), none, some (.inr (.inl l)), none, some (.inl (σ 92 2)), none, none]) (st' := []) rfl ?_
  refine jx_tin_1 hx hLs hL (fun k k0 hk1 hhi hlo => ?_) hl64 L.length (by omega) (by omega) (fun i z hz hi => by have := (List.getElem?_eq_some_iff.mp hz).1; omega)
  refine jw_W_n 1 (i' := 26) (ls' := [some (.inr (.inr 92)), some (.inr (.inl u)), none, some (.inr (.inl l)), none, some (.inl k), none, none]) (st' := [.inl k]) rfl ?_
  refine jw_W_if rfl (by unfold jw_rg; omega) (fun hc1 => ?_) (fun hc1 => ?_)
  · have hc1 : k ≤ 0 := hc1
    refine jw_W_n 3 (i' := 50) (ls' := [some (.inr (.inr 92)), some (.inr (.inl u)), none, some (.inr (.inl l)), none, some (.inl k), some (.inl 0), none]) (st' := [.inl 0]) rfl ?_
    refine jw_W_if rfl (by unfold jw_rg; omega) (fun hc2 => ?_) (fun hc2 => ?_)
    · exact absurd hc2 (show ¬ ((0 : Int) ≠ 0) by omega)
    · clear hc2
      refine jw_W_n 1 (i' := 52) (ls' := [some (.inr (.inr 92)), some (.inr (.inl u)), none, some (.inr (.inl l)), none, some (.inl k), some (.inl 0), none]) (st' := [.inr (.inr 92)]) rfl ?_
      refine jw_W_gf rfl rfl rfl ?_
      show jw_W (js_S n) _ md_93 53 [some (.inr (.inr 92)), some (.inr (.inl u)), none, some (.inr (.inl l)), none, some (.inl k), some (.inl 0), none] [.inl (σ 92 2)] σ _
      refine jw_W_n 1 (i' := 54) (ls' := [some (.inr (.inr 92)), some (.inr (.inl u)), none, some (.inr (.inl l)), none, some (.inl k), some (.inl 0), none]) (st' := [.inl 64, .inl (σ 92 2)]) rfl ?_
      refine jw_W_ic rfl (by unfold jw_rg; omega) (by unfold jw_rg; omega) (fun hc3 => ?_) (fun hc3 => ?_)
      · have hc3 : (σ 92 2) < 64 := hc3
        refine jw_W_n 1 (i' := 57) (ls' := [some (.inr (.inr 92)), some (.inr (.inl u)), none, some (.inr (.inl l)), none, some (.inl k), some (.inl 0), none]) (st' := [.inr (.inr 92)]) rfl ?_
        refine jw_W_gf rfl rfl rfl ?_
        show jw_W (js_S n) _ md_93 58 [some (.inr (.inr 92)), some (.inr (.inl u)), none, some (.inr (.inl l)), none, some (.inl k), some (.inl 0), none] [.inl (σ 92 2)] σ _
        refine jw_W_n 1 (i' := 59) (ls' := [some (.inr (.inr 92)), some (.inr (.inl u)), none, some (.inr (.inl l)), none, some (.inl k), some (.inl 0), some (.inl (σ 92 2))]) (st' := []) rfl ?_
        refine jx_tin_2 hs hl64 k0 hk1 ?_ (fun i z hz hi => hhi i z hz (by omega)) (L.length - k.toNat) (by omega) (by omega) (jn_f95_rf σ) (by rw [hL1]; exact jn_mv_0 hL) hL1
        intro i z hz hi
        rcases hlo with hlo | ⟨w, hw, hnw⟩
        · omega
        · have hwm := List.mem_of_getElem? hw
          have hws := hLs w hwm
          have hlt : jn_lt w (u, l) := by
            apply Classical.byContradiction
            intro hn
            unfold jn_lt at hn hnw
            have e := jn_red_eq (a := w) (b := (u, l)) hws.2.1 hx.2.1 (hLr w hwm) hxr (by simp only at hn hnw ⊢; omega)
            have hz1 := jn_tw_at hL (k := k - 1) (by omega) (by omega)
            obtain ⟨y', hy', -, hy1', hy2'⟩ := hz1
            rw [show (k - 1).toNat = k.toNat - 1 by omega, hw] at hy'
            cases hy'
            rw [e] at hy1' hy2'
            simp only at hy1' hy2'
            rw [e] at hw
            first
            | omega
            | (rw [show (k - 1).toNat = k.toNat - 1 by omega, hw] at hy
               cases hy
               omega)
          exact jn_below hs (fun y hy => (hLs y hy).2.1) hx.2.1 hw hlt i z hz (by omega)
      · have hc3 : ¬ ((σ 92 2) < 64) := hc3
        refine jw_W_re rfl ?_
        first
          | (exfalso; omega)
          | exact ⟨rfl, jn_f95_rf σ, L, hL, hs, fun z => ⟨.inl, fun hh => by
              rcases hh with hh | hh
              · exact hh
              · rw [hh, show ((u, l) : Int × Int) = y from Prod.ext (by simp only; omega) (by simp only; omega)]
                exact hym⟩⟩
  · have hc1 : ¬ (k ≤ 0) := hc1
    obtain ⟨y, hy, hym, hy1, hy2⟩ := jn_tw_at hL (k := k - 1) (by omega) (by omega)
    have hys := hLs y hym
    have hys2 := hys.1
    have hys3 := hys.2
    have hx2 := hx.1
    have hx3 := hx.2
    simp only at hx2 hx3
    refine jw_W_n 1 (i' := 28) (ls' := [some (.inr (.inr 92)), some (.inr (.inl u)), none, some (.inr (.inl l)), none, some (.inl k), none, none]) (st' := [.inr (.inr 92)]) rfl ?_
    refine jw_W_gf rfl rfl rfl ?_
    show jw_W (js_S n) _ md_93 29 [some (.inr (.inr 92)), some (.inr (.inl u)), none, some (.inr (.inl l)), none, some (.inl k), none, none] [.inr (.inr 95)] σ _
    refine jw_W_n 3 (i' := 32) (ls' := [some (.inr (.inr 92)), some (.inr (.inl u)), none, some (.inr (.inl l)), none, some (.inl k), none, none]) (st' := [.inl (k - 1), .inr (.inr 95)]) rfl ?_
    refine jw_W_la rfl rfl (by omega) (by omega) (by omega) ?_
    show jw_W (js_S n) _ md_93 33 [some (.inr (.inr 92)), some (.inr (.inl u)), none, some (.inr (.inl l)), none, some (.inl k), none, none] [.inr (.inl (σ 95 (k - 1)))] σ _
    rw [hy1]
    refine jw_W_n 1 (i' := 34) (ls' := [some (.inr (.inr 92)), some (.inr (.inl u)), none, some (.inr (.inl l)), none, some (.inl k), none, none]) (st' := [.inr (.inl u), .inr (.inl y.1)]) rfl ?_
    refine jw_W_lc rfl rfl (by unfold jw_rgl; omega) (by unfold jw_rgl; omega) (fun hc4 => ?_) (fun hc4 => ?_)
    · have hc4 : y.1 ≠ u := hc4
      refine jw_W_n 3 (i' := 50) (ls' := [some (.inr (.inr 92)), some (.inr (.inl u)), none, some (.inr (.inl l)), none, some (.inl k), some (.inl 0), none]) (st' := [.inl 0]) rfl ?_
      refine jw_W_if rfl (by unfold jw_rg; omega) (fun hc5 => ?_) (fun hc5 => ?_)
      · exact absurd hc5 (show ¬ ((0 : Int) ≠ 0) by omega)
      · clear hc5
        refine jw_W_n 1 (i' := 52) (ls' := [some (.inr (.inr 92)), some (.inr (.inl u)), none, some (.inr (.inl l)), none, some (.inl k), some (.inl 0), none]) (st' := [.inr (.inr 92)]) rfl ?_
        refine jw_W_gf rfl rfl rfl ?_
        show jw_W (js_S n) _ md_93 53 [some (.inr (.inr 92)), some (.inr (.inl u)), none, some (.inr (.inl l)), none, some (.inl k), some (.inl 0), none] [.inl (σ 92 2)] σ _
        refine jw_W_n 1 (i' := 54) (ls' := [some (.inr (.inr 92)), some (.inr (.inl u)), none, some (.inr (.inl l)), none, some (.inl k), some (.inl 0), none]) (st' := [.inl 64, .inl (σ 92 2)]) rfl ?_
        refine jw_W_ic rfl (by unfold jw_rg; omega) (by unfold jw_rg; omega) (fun hc6 => ?_) (fun hc6 => ?_)
        · have hc6 : (σ 92 2) < 64 := hc6
          refine jw_W_n 1 (i' := 57) (ls' := [some (.inr (.inr 92)), some (.inr (.inl u)), none, some (.inr (.inl l)), none, some (.inl k), some (.inl 0), none]) (st' := [.inr (.inr 92)]) rfl ?_
          refine jw_W_gf rfl rfl rfl ?_
          show jw_W (js_S n) _ md_93 58 [some (.inr (.inr 92)), some (.inr (.inl u)), none, some (.inr (.inl l)), none, some (.inl k), some (.inl 0), none] [.inl (σ 92 2)] σ _
          refine jw_W_n 1 (i' := 59) (ls' := [some (.inr (.inr 92)), some (.inr (.inl u)), none, some (.inr (.inl l)), none, some (.inl k), some (.inl 0), some (.inl (σ 92 2))]) (st' := []) rfl ?_
          refine jx_tin_2 hs hl64 k0 hk1 ?_ (fun i z hz hi => hhi i z hz (by omega)) (L.length - k.toNat) (by omega) (by omega) (jn_f95_rf σ) (by rw [hL1]; exact jn_mv_0 hL) hL1
          intro i z hz hi
          rcases hlo with hlo | ⟨w, hw, hnw⟩
          · omega
          · have hwm := List.mem_of_getElem? hw
            have hws := hLs w hwm
            have hlt : jn_lt w (u, l) := by
              apply Classical.byContradiction
              intro hn
              unfold jn_lt at hn hnw
              have e := jn_red_eq (a := w) (b := (u, l)) hws.2.1 hx.2.1 (hLr w hwm) hxr (by simp only at hn hnw ⊢; omega)
              have hz1 := jn_tw_at hL (k := k - 1) (by omega) (by omega)
              obtain ⟨y', hy', -, hy1', hy2'⟩ := hz1
              rw [show (k - 1).toNat = k.toNat - 1 by omega, hw] at hy'
              cases hy'
              rw [e] at hy1' hy2'
              simp only at hy1' hy2'
              rw [e] at hw
              first
              | omega
              | (rw [show (k - 1).toNat = k.toNat - 1 by omega, hw] at hy
                 cases hy
                 omega)
            exact jn_below hs (fun y hy => (hLs y hy).2.1) hx.2.1 hw hlt i z hz (by omega)
        · have hc6 : ¬ ((σ 92 2) < 64) := hc6
          refine jw_W_re rfl ?_
          first
            | (exfalso; omega)
            | exact ⟨rfl, jn_f95_rf σ, L, hL, hs, fun z => ⟨.inl, fun hh => by
                rcases hh with hh | hh
                · exact hh
                · rw [hh, show ((u, l) : Int × Int) = y from Prod.ext (by simp only; omega) (by simp only; omega)]
                  exact hym⟩⟩
    · have hc4 : y.1 = u := Classical.not_not.mp hc4
      refine jw_W_n 1 (i' := 37) (ls' := [some (.inr (.inr 92)), some (.inr (.inl u)), none, some (.inr (.inl l)), none, some (.inl k), none, none]) (st' := [.inr (.inr 92)]) rfl ?_
      refine jw_W_gf rfl rfl rfl ?_
      show jw_W (js_S n) _ md_93 38 [some (.inr (.inr 92)), some (.inr (.inl u)), none, some (.inr (.inl l)), none, some (.inl k), none, none] [.inr (.inr 96)] σ _
      refine jw_W_n 3 (i' := 41) (ls' := [some (.inr (.inr 92)), some (.inr (.inl u)), none, some (.inr (.inl l)), none, some (.inl k), none, none]) (st' := [.inl (k - 1), .inr (.inr 96)]) rfl ?_
      refine jw_W_la rfl rfl (by omega) (by omega) (by omega) ?_
      show jw_W (js_S n) _ md_93 42 [some (.inr (.inr 92)), some (.inr (.inl u)), none, some (.inr (.inl l)), none, some (.inl k), none, none] [.inr (.inl (σ 96 (k - 1)))] σ _
      rw [hy2]
      refine jw_W_n 1 (i' := 43) (ls' := [some (.inr (.inr 92)), some (.inr (.inl u)), none, some (.inr (.inl l)), none, some (.inl k), none, none]) (st' := [.inr (.inl l), .inr (.inl y.2)]) rfl ?_
      refine jw_W_lc rfl rfl (by unfold jw_rgl; omega) (by unfold jw_rgl; omega) (fun hc7 => ?_) (fun hc7 => ?_)
      · have hc7 : y.2 ≠ l := hc7
        refine jw_W_n 3 (i' := 50) (ls' := [some (.inr (.inr 92)), some (.inr (.inl u)), none, some (.inr (.inl l)), none, some (.inl k), some (.inl 0), none]) (st' := [.inl 0]) rfl ?_
        refine jw_W_if rfl (by unfold jw_rg; omega) (fun hc8 => ?_) (fun hc8 => ?_)
        · exact absurd hc8 (show ¬ ((0 : Int) ≠ 0) by omega)
        · clear hc8
          refine jw_W_n 1 (i' := 52) (ls' := [some (.inr (.inr 92)), some (.inr (.inl u)), none, some (.inr (.inl l)), none, some (.inl k), some (.inl 0), none]) (st' := [.inr (.inr 92)]) rfl ?_
          refine jw_W_gf rfl rfl rfl ?_
          show jw_W (js_S n) _ md_93 53 [some (.inr (.inr 92)), some (.inr (.inl u)), none, some (.inr (.inl l)), none, some (.inl k), some (.inl 0), none] [.inl (σ 92 2)] σ _
          refine jw_W_n 1 (i' := 54) (ls' := [some (.inr (.inr 92)), some (.inr (.inl u)), none, some (.inr (.inl l)), none, some (.inl k), some (.inl 0), none]) (st' := [.inl 64, .inl (σ 92 2)]) rfl ?_
          refine jw_W_ic rfl (by unfold jw_rg; omega) (by unfold jw_rg; omega) (fun hc9 => ?_) (fun hc9 => ?_)
          · have hc9 : (σ 92 2) < 64 := hc9
            refine jw_W_n 1 (i' := 57) (ls' := [some (.inr (.inr 92)), some (.inr (.inl u)), none, some (.inr (.inl l)), none, some (.inl k), some (.inl 0), none]) (st' := [.inr (.inr 92)]) rfl ?_
            refine jw_W_gf rfl rfl rfl ?_
            show jw_W (js_S n) _ md_93 58 [some (.inr (.inr 92)), some (.inr (.inl u)), none, some (.inr (.inl l)), none, some (.inl k), some (.inl 0), none] [.inl (σ 92 2)] σ _
            refine jw_W_n 1 (i' := 59) (ls' := [some (.inr (.inr 92)), some (.inr (.inl u)), none, some (.inr (.inl l)), none, some (.inl k), some (.inl 0), some (.inl (σ 92 2))]) (st' := []) rfl ?_
            refine jx_tin_2 hs hl64 k0 hk1 ?_ (fun i z hz hi => hhi i z hz (by omega)) (L.length - k.toNat) (by omega) (by omega) (jn_f95_rf σ) (by rw [hL1]; exact jn_mv_0 hL) hL1
            intro i z hz hi
            rcases hlo with hlo | ⟨w, hw, hnw⟩
            · omega
            · have hwm := List.mem_of_getElem? hw
              have hws := hLs w hwm
              have hlt : jn_lt w (u, l) := by
                apply Classical.byContradiction
                intro hn
                unfold jn_lt at hn hnw
                have e := jn_red_eq (a := w) (b := (u, l)) hws.2.1 hx.2.1 (hLr w hwm) hxr (by simp only at hn hnw ⊢; omega)
                have hz1 := jn_tw_at hL (k := k - 1) (by omega) (by omega)
                obtain ⟨y', hy', -, hy1', hy2'⟩ := hz1
                rw [show (k - 1).toNat = k.toNat - 1 by omega, hw] at hy'
                cases hy'
                rw [e] at hy1' hy2'
                simp only at hy1' hy2'
                rw [e] at hw
                first
                | omega
                | (rw [show (k - 1).toNat = k.toNat - 1 by omega, hw] at hy
                   cases hy
                   omega)
              exact jn_below hs (fun y hy => (hLs y hy).2.1) hx.2.1 hw hlt i z hz (by omega)
          · have hc9 : ¬ ((σ 92 2) < 64) := hc9
            refine jw_W_re rfl ?_
            first
              | (exfalso; omega)
              | exact ⟨rfl, jn_f95_rf σ, L, hL, hs, fun z => ⟨.inl, fun hh => by
                  rcases hh with hh | hh
                  · exact hh
                  · rw [hh, show ((u, l) : Int × Int) = y from Prod.ext (by simp only; omega) (by simp only; omega)]
                    exact hym⟩⟩
      · have hc7 : y.2 = l := Classical.not_not.mp hc7
        refine jw_W_n 4 (i' := 50) (ls' := [some (.inr (.inr 92)), some (.inr (.inl u)), none, some (.inr (.inl l)), none, some (.inl k), some (.inl 1), none]) (st' := [.inl 1]) rfl ?_
        refine jw_W_if rfl (by unfold jw_rg; omega) (fun hc10 => ?_) (fun hc10 => ?_)
        · clear hc10
          refine jw_W_re rfl ?_
          first
            | (exfalso; omega)
            | exact ⟨rfl, jn_f95_rf σ, L, hL, hs, fun z => ⟨.inl, fun hh => by
                rcases hh with hh | hh
                · exact hh
                · rw [hh, show ((u, l) : Int × Int) = y from Prod.ext (by simp only; omega) (by simp only; omega)]
                  exact hym⟩⟩
        · exact absurd hc10 (show ¬ ¬ ((1 : Int) ≠ 0) by omega)

/-! ===== turn: the reference keeps shares in order ===== -/
def jn_f140 (σ0 σ : jw_H) : Prop := (∀ c, c ≠ 103 → c ≠ 140 → c ≠ 141 → σ c = σ0 c) ∧ ∀ j, j ≠ 66 → σ 103 j = σ0 103 j
theorem jn_f140_tr {σ σ1 σ2 : jw_H} (a : jn_f140 σ σ1) (b : jn_f140 σ1 σ2) : jn_f140 σ σ2 := ⟨fun c h1 h2 h3 => (b.1 c h1 h2 h3).trans (a.1 c h1 h2 h3), fun j h => (b.2 j h).trans (a.2 j h)⟩
theorem jn_f140_rf (σ : jw_H) : jn_f140 σ σ := ⟨fun _ _ _ _ => rfl, fun _ _ => rfl⟩
theorem jn_f140_up {σ0 σ : jw_H} {o : Nat} {j v : Int} (h : jn_f140 σ0 σ) (ho : o = 140 ∨ o = 141 ∨ (o = 103 ∧ j = 66)) : jn_f140 σ0 (jw_up σ o j v) := by
  refine ⟨fun c h1 h2 h3 => ?_, fun j' hj => ?_⟩
  · rw [jw_up_out _ _ _ (by omega)]
    exact h.1 c h1 h2 h3
  · rw [jw_up_ne _ (by omega)]
    exact h.2 j' hj
theorem jm_tin_2 {n : Nat} {σ0 : jw_H} {D : Nat} {u l k : Int} {L : List (Int × Int)} (hs : L.Pairwise jn_lt) (hl64 : L.length < 64) (k0 : 0 ≤ k) (hk1 : k ≤ (L.length : Int)) (hlo : ∀ (i : Nat) (y : Int × Int), L[i]? = some y → i < k.toNat → jn_lt y (u, l)) (hhi : ∀ (i : Nat) (y : Int × Int), L[i]? = some y → k.toNat ≤ i → jn_lt (u, l) y) : ∀ (f : Nat) {σ : jw_H} {t : Int}, t - k = f → t ≤ (L.length : Int) → jn_f140 σ0 σ → jn_mv 140 141 σ L t → σ 103 66 = (L.length : Int) → jw_W (js_S n) D md_287 46 [some (.inr (.inr 103)), some (.inr (.inl u)), none, some (.inr (.inl l)), none, some (.inl k), some (.inl t)] [] σ (fun r σ' => r = none ∧ jn_f140 σ0 σ' ∧ ∃ L', jn_tw 140 141 103 66 σ' L' ∧ L'.Pairwise jn_lt ∧ (∀ y ∈ L', y ∈ L ∨ y = (u, l)) ∧ (∀ y ∈ L, y ∈ L') ∧ ∃ y ∈ L', y.1 * l = u * y.2)
  | f, σ, t, hk, ht1, hfr, hM, hcn => by
    have ih : ∀ {σ' : jw_H}, k < t → jn_f140 σ0 σ' → jn_mv 140 141 σ' L (t + -1) → σ' 103 66 = (L.length : Int) → jw_W (js_S n) D md_287 46 [some (.inr (.inr 103)), some (.inr (.inl u)), none, some (.inr (.inl l)), none, some (.inl k), some (.inl (t + -1))] [] σ' (fun r σ' => r = none ∧ jn_f140 σ0 σ' ∧ ∃ L', jn_tw 140 141 103 66 σ' L' ∧ L'.Pairwise jn_lt ∧ (∀ y ∈ L', y ∈ L ∨ y = (u, l)) ∧ (∀ y ∈ L, y ∈ L') ∧ ∃ y ∈ L', y.1 * l = u * y.2) := by
      intro σ' h1 h2 h3 h4
      match f, hk with
      | 0, hk => omega
      | f + 1, hk => exact jm_tin_2 hs hl64 k0 hk1 hlo hhi f (by omega) (by omega) h2 h3 h4
    refine jw_W_n 2 (i' := 48) (ls' := [some (.inr (.inr 103)), some (.inr (.inl u)), none, some (.inr (.inl l)), none, some (.inl k), some (.inl t)]) (st' := [.inl k, .inl t]) rfl ?_
    refine jw_W_ic rfl (by unfold jw_rg; omega) (by unfold jw_rg; omega) (fun hc1 => ?_) (fun hc1 => ?_)
    · have hc1 : t ≤ k := hc1
      refine jw_W_n 1 (i' := 72) (ls' := [some (.inr (.inr 103)), some (.inr (.inl u)), none, some (.inr (.inl l)), none, some (.inl k), some (.inl t)]) (st' := [.inr (.inr 103)]) rfl ?_
      refine jw_W_gf rfl rfl rfl ?_
      show jw_W (js_S n) _ md_287 73 [some (.inr (.inr 103)), some (.inr (.inl u)), none, some (.inr (.inl l)), none, some (.inl k), some (.inl t)] [.inr (.inr 140)] σ _
      refine jw_W_n 2 (i' := 75) (ls' := [some (.inr (.inr 103)), some (.inr (.inl u)), none, some (.inr (.inl l)), none, some (.inl k), some (.inl t)]) (st' := [.inr (.inl u), .inl k, .inr (.inr 140)]) rfl ?_
      refine jw_W_ls rfl (by omega) rfl (by omega) (by omega) (by omega) ?_
      refine jw_W_n 1 (i' := 77) (ls' := [some (.inr (.inr 103)), some (.inr (.inl u)), none, some (.inr (.inl l)), none, some (.inl k), some (.inl t)]) (st' := [.inr (.inr 103)]) rfl ?_
      refine jw_W_gf rfl rfl rfl ?_
      show jw_W (js_S n) _ md_287 78 [some (.inr (.inr 103)), some (.inr (.inl u)), none, some (.inr (.inl l)), none, some (.inl k), some (.inl t)] [.inr (.inr 141)] ((jw_up σ 140 k u)) _
      refine jw_W_n 2 (i' := 80) (ls' := [some (.inr (.inr 103)), some (.inr (.inl u)), none, some (.inr (.inl l)), none, some (.inl k), some (.inl t)]) (st' := [.inr (.inl l), .inl k, .inr (.inr 141)]) rfl ?_
      refine jw_W_ls rfl (by omega) rfl (by omega) (by omega) (by omega) ?_
      refine jw_W_n 2 (i' := 83) (ls' := [some (.inr (.inr 103)), some (.inr (.inl u)), none, some (.inr (.inl l)), none, some (.inl k), some (.inl t)]) (st' := [.inr (.inr 103), .inr (.inr 103)]) rfl ?_
      refine jw_W_gf rfl rfl rfl ?_
      show jw_W (js_S n) _ md_287 84 [some (.inr (.inr 103)), some (.inr (.inl u)), none, some (.inr (.inl l)), none, some (.inl k), some (.inl t)] [.inl (σ 103 66), .inr (.inr 103)] ((jw_up (jw_up σ 140 k u) 141 k l)) _
      refine jw_W_n 2 (i' := 86) (ls' := [some (.inr (.inr 103)), some (.inr (.inl u)), none, some (.inr (.inl l)), none, some (.inl k), some (.inl t)]) (st' := [.inl (σ 103 66 + 1), .inr (.inr 103)]) rfl ?_
      refine jw_W_pf (a := σ 103 66 + 1) rfl (by omega) rfl rfl rfl rfl rfl ?_
      refine jw_W_re rfl ?_
      have hkt : t = k := by omega
      subst hkt
      exact ⟨rfl, jn_f140_up (jn_f140_up (jn_f140_up hfr (by omega)) (by omega)) (by omega), _, jn_mv_end (x := (u, l)) (by decide) (by decide) (by decide) k0 hk1 hM (by omega), jn_ins_so hs hlo hhi, fun y hy => jn_ins_mem.mp hy, fun y hy => jn_ins_mem.mpr (.inl hy), (u, l), jn_ins_mem.mpr (.inr rfl), rfl⟩
    · have hc1 : ¬ (t ≤ k) := hc1
      refine jw_W_n 1 (i' := 50) (ls' := [some (.inr (.inr 103)), some (.inr (.inl u)), none, some (.inr (.inl l)), none, some (.inl k), some (.inl t)]) (st' := [.inr (.inr 103)]) rfl ?_
      refine jw_W_gf rfl rfl rfl ?_
      show jw_W (js_S n) _ md_287 51 [some (.inr (.inr 103)), some (.inr (.inl u)), none, some (.inr (.inl l)), none, some (.inl k), some (.inl t)] [.inr (.inr 140)] σ _
      refine jw_W_n 2 (i' := 53) (ls' := [some (.inr (.inr 103)), some (.inr (.inl u)), none, some (.inr (.inl l)), none, some (.inl k), some (.inl t)]) (st' := [.inr (.inr 103), .inl t, .inr (.inr 140)]) rfl ?_
      refine jw_W_gf rfl rfl rfl ?_
      show jw_W (js_S n) _ md_287 54 [some (.inr (.inr 103)), some (.inr (.inl u)), none, some (.inr (.inl l)), none, some (.inl k), some (.inl t)] [.inr (.inr 140), .inl t, .inr (.inr 140)] σ _
      refine jw_W_n 3 (i' := 57) (ls' := [some (.inr (.inr 103)), some (.inr (.inl u)), none, some (.inr (.inl l)), none, some (.inl k), some (.inl t)]) (st' := [.inl (t - 1), .inr (.inr 140), .inl t, .inr (.inr 140)]) rfl ?_
      refine jw_W_la rfl rfl (by omega) (by omega) (by omega) ?_
      show jw_W (js_S n) _ md_287 58 [some (.inr (.inr 103)), some (.inr (.inl u)), none, some (.inr (.inl l)), none, some (.inl k), some (.inl t)] [.inr (.inl (σ 140 (t - 1))), .inl t, .inr (.inr 140)] σ _
      refine jw_W_ls rfl (by omega) rfl (by omega) (by omega) (by omega) ?_
      refine jw_W_n 1 (i' := 60) (ls' := [some (.inr (.inr 103)), some (.inr (.inl u)), none, some (.inr (.inl l)), none, some (.inl k), some (.inl t)]) (st' := [.inr (.inr 103)]) rfl ?_
      refine jw_W_gf rfl rfl rfl ?_
      show jw_W (js_S n) _ md_287 61 [some (.inr (.inr 103)), some (.inr (.inl u)), none, some (.inr (.inl l)), none, some (.inl k), some (.inl t)] [.inr (.inr 141)] ((jw_up σ 140 t (σ 140 (t - 1)))) _
      refine jw_W_n 2 (i' := 63) (ls' := [some (.inr (.inr 103)), some (.inr (.inl u)), none, some (.inr (.inl l)), none, some (.inl k), some (.inl t)]) (st' := [.inr (.inr 103), .inl t, .inr (.inr 141)]) rfl ?_
      refine jw_W_gf rfl rfl rfl ?_
      show jw_W (js_S n) _ md_287 64 [some (.inr (.inr 103)), some (.inr (.inl u)), none, some (.inr (.inl l)), none, some (.inl k), some (.inl t)] [.inr (.inr 141), .inl t, .inr (.inr 141)] ((jw_up σ 140 t (σ 140 (t - 1)))) _
      refine jw_W_n 3 (i' := 67) (ls' := [some (.inr (.inr 103)), some (.inr (.inl u)), none, some (.inr (.inl l)), none, some (.inl k), some (.inl t)]) (st' := [.inl (t - 1), .inr (.inr 141), .inl t, .inr (.inr 141)]) rfl ?_
      refine jw_W_la rfl rfl (by omega) (by omega) (by omega) ?_
      show jw_W (js_S n) _ md_287 68 [some (.inr (.inr 103)), some (.inr (.inl u)), none, some (.inr (.inl l)), none, some (.inl k), some (.inl t)] [.inr (.inl (σ 141 (t - 1))), .inl t, .inr (.inr 141)] ((jw_up σ 140 t (σ 140 (t - 1)))) _
      refine jw_W_ls rfl (by omega) rfl (by omega) (by omega) (by omega) ?_
      refine jw_W_n 2 (i' := 46) (ls' := [some (.inr (.inr 103)), some (.inr (.inl u)), none, some (.inr (.inl l)), none, some (.inl k), some (.inl (t + ((-1))))]) (st' := []) rfl ?_
      exact ih (by omega) (jn_f140_up (jn_f140_up hfr (by omega)) (by omega)) (jn_mv_s (by decide) (by omega) ht1 hM) (by rw [jw_up_ne _ (by omega), jw_up_ne _ (by omega)]; exact hcn)
theorem jm_tin_1 {n : Nat} {σ : jw_H} {D : Nat} {u l : Int} (hx : jn_sm (u, l)) {L : List (Int × Int)} (hLs : ∀ y ∈ L, jn_sm y) (hs : L.Pairwise jn_lt) (hL : jn_tw 140 141 103 66 σ L) (hl64 : L.length < 64) (hQ : ∀ {a k : Int}, (∀ (i : Nat) (y : Int × Int), L[i]? = some y → i < a.toNat → jn_lt y (u, l)) → (∀ (i : Nat) (y : Int × Int), L[i]? = some y → a.toNat ≤ i → jn_lt (u, l) y) → (0 ≤ a ∧ a ≤ (L.length : Int)) → k = (L.length : Int) → jw_W (js_S n) D md_287 43 [some (.inr (.inr 103)), some (.inr (.inl u)), none, some (.inr (.inl l)), none, some (.inl a), some (.inl k)] [] σ (fun r σ' => r = none ∧ jn_f140 σ σ' ∧ ∃ L', jn_tw 140 141 103 66 σ' L' ∧ L'.Pairwise jn_lt ∧ (∀ y ∈ L', y ∈ L ∨ y = (u, l)) ∧ (∀ y ∈ L, y ∈ L') ∧ ∃ y ∈ L', y.1 * l = u * y.2)) : ∀ (f : Nat) {a k : Int}, 0 ≤ k → k + f = (L.length : Int) → 0 ≤ a → a ≤ k → (∀ (i : Nat) (y : Int × Int), L[i]? = some y → i < a.toNat → jn_lt y (u, l)) → (∀ (i : Nat) (y : Int × Int), L[i]? = some y → a.toNat ≤ i → (i : Int) < k → jn_lt (u, l) y) → jw_W (js_S n) D md_287 4 [some (.inr (.inr 103)), some (.inr (.inl u)), none, some (.inr (.inl l)), none, some (.inl a), some (.inl k)] [] σ (fun r σ' => r = none ∧ jn_f140 σ σ' ∧ ∃ L', jn_tw 140 141 103 66 σ' L' ∧ L'.Pairwise jn_lt ∧ (∀ y ∈ L', y ∈ L ∨ y = (u, l)) ∧ (∀ y ∈ L, y ∈ L') ∧ ∃ y ∈ L', y.1 * l = u * y.2)
  | f, a, k, k0, hk, a0, a1, hlo, hhi => by
    have ih : ∀ {a' : Int}, k < (L.length : Int) → 0 ≤ a' → a' ≤ k + 1 → (∀ (i : Nat) (y : Int × Int), L[i]? = some y → i < a'.toNat → jn_lt y (u, l)) → (∀ (i : Nat) (y : Int × Int), L[i]? = some y → a'.toNat ≤ i → (i : Int) < k + 1 → jn_lt (u, l) y) → jw_W (js_S n) D md_287 4 [some (.inr (.inr 103)), some (.inr (.inl u)), none, some (.inr (.inl l)), none, some (.inl a'), some (.inl (k + 1))] [] σ (fun r σ' => r = none ∧ jn_f140 σ σ' ∧ ∃ L', jn_tw 140 141 103 66 σ' L' ∧ L'.Pairwise jn_lt ∧ (∀ y ∈ L', y ∈ L ∨ y = (u, l)) ∧ (∀ y ∈ L, y ∈ L') ∧ ∃ y ∈ L', y.1 * l = u * y.2) := by
      intro a' h1 h2 h3 h4 h5
      match f, hk with
      | 0, hk => omega
      | f + 1, hk => exact jm_tin_1 hx hLs hs hL hl64 hQ f (by omega) (by omega) h2 h3 h4 h5
    have hL1 := hL.1
    refine jw_W_n 2 (i' := 6) (ls' := [some (.inr (.inr 103)), some (.inr (.inl u)), none, some (.inr (.inl l)), none, some (.inl a), some (.inl k)]) (st' := [.inr (.inr 103), .inl k]) rfl ?_
    refine jw_W_gf rfl rfl rfl ?_
    show jw_W (js_S n) _ md_287 7 [some (.inr (.inr 103)), some (.inr (.inl u)), none, some (.inr (.inl l)), none, some (.inl a), some (.inl k)] [.inl (σ 103 66), .inl k] σ _
    refine jw_W_ic rfl (by unfold jw_rg; omega) (by unfold jw_rg; omega) (fun hc1 => ?_) (fun hc1 => ?_)
    · have hc1 : k ≥ (σ 103 66) := hc1
      have hkl : k = (L.length : Int) := by omega
      exact hQ hlo (fun i z hz hi => hhi i z hz hi (by have := (List.getElem?_eq_some_iff.mp hz).1; omega)) (by rw [← hkl]; exact ⟨a0, a1⟩) hkl
    · have hc1 : ¬ (k ≥ (σ 103 66)) := hc1
      refine jw_W_n 1 (i' := 9) (ls' := [some (.inr (.inr 103)), some (.inr (.inl u)), none, some (.inr (.inl l)), none, some (.inl a), some (.inl k)]) (st' := [.inr (.inr 103)]) rfl ?_
      refine jw_W_gf rfl rfl rfl ?_
      show jw_W (js_S n) _ md_287 10 [some (.inr (.inr 103)), some (.inr (.inl u)), none, some (.inr (.inl l)), none, some (.inl a), some (.inl k)] [.inr (.inr 140)] σ _
      refine jw_W_n 1 (i' := 11) (ls' := [some (.inr (.inr 103)), some (.inr (.inl u)), none, some (.inr (.inl l)), none, some (.inl a), some (.inl k)]) (st' := [.inl k, .inr (.inr 140)]) rfl ?_
      refine jw_W_la rfl rfl (by omega) (by omega) (by omega) ?_
      show jw_W (js_S n) _ md_287 12 [some (.inr (.inr 103)), some (.inr (.inl u)), none, some (.inr (.inl l)), none, some (.inl a), some (.inl k)] [.inr (.inl (σ 140 k))] σ _
      obtain ⟨y, hy, hym, hy1, hy2⟩ := jn_tw_at hL (k := k) (by omega) (by omega)
      have hys := hLs y hym
      have m1 := jn_mulp hx.1 hys.2
      have m2 := jn_mulp hys.1 hx.2
      simp only at m1 m2
      rw [hy1]
      refine jw_W_n 4 (i' := 16) (ls' := [some (.inr (.inr 103)), some (.inr (.inl u)), none, some (.inr (.inl l)), none, some (.inl a), some (.inl k)]) (st' := [.inr (.inr 103), .inr (.inl u), .inr (.inl (y.1 * l))]) rfl ?_
      refine jw_W_gf rfl rfl rfl ?_
      show jw_W (js_S n) _ md_287 17 [some (.inr (.inr 103)), some (.inr (.inl u)), none, some (.inr (.inl l)), none, some (.inl a), some (.inl k)] [.inr (.inr 141), .inr (.inl u), .inr (.inl (y.1 * l))] σ _
      refine jw_W_n 1 (i' := 18) (ls' := [some (.inr (.inr 103)), some (.inr (.inl u)), none, some (.inr (.inl l)), none, some (.inl a), some (.inl k)]) (st' := [.inl k, .inr (.inr 141), .inr (.inl u), .inr (.inl (y.1 * l))]) rfl ?_
      refine jw_W_la rfl rfl (by omega) (by omega) (by omega) ?_
      show jw_W (js_S n) _ md_287 19 [some (.inr (.inr 103)), some (.inr (.inl u)), none, some (.inr (.inl l)), none, some (.inl a), some (.inl k)] [.inr (.inl (σ 141 k)), .inr (.inl u), .inr (.inl (y.1 * l))] σ _
      rw [hy2]
      refine jw_W_n 1 (i' := 20) (ls' := [some (.inr (.inr 103)), some (.inr (.inl u)), none, some (.inr (.inl l)), none, some (.inl a), some (.inl k)]) (st' := [.inr (.inl (u * y.2)), .inr (.inl (y.1 * l))]) rfl ?_
      refine jw_W_lc rfl rfl (by unfold jw_rgl; omega) (by unfold jw_rgl; omega) (fun hc2 => ?_) (fun hc2 => ?_)
      · have hc2 : (y.1 * l) ≠ (u * y.2) := hc2
        refine jw_W_n 1 (i' := 24) (ls' := [some (.inr (.inr 103)), some (.inr (.inl u)), none, some (.inr (.inl l)), none, some (.inl a), some (.inl k)]) (st' := [.inr (.inr 103)]) rfl ?_
        refine jw_W_gf rfl rfl rfl ?_
        show jw_W (js_S n) _ md_287 25 [some (.inr (.inr 103)), some (.inr (.inl u)), none, some (.inr (.inl l)), none, some (.inl a), some (.inl k)] [.inr (.inr 140)] σ _
        refine jw_W_n 1 (i' := 26) (ls' := [some (.inr (.inr 103)), some (.inr (.inl u)), none, some (.inr (.inl l)), none, some (.inl a), some (.inl k)]) (st' := [.inl k, .inr (.inr 140)]) rfl ?_
        refine jw_W_la rfl rfl (by omega) (by omega) (by omega) ?_
        show jw_W (js_S n) _ md_287 27 [some (.inr (.inr 103)), some (.inr (.inl u)), none, some (.inr (.inl l)), none, some (.inl a), some (.inl k)] [.inr (.inl (σ 140 k))] σ _
        rw [hy1]
        refine jw_W_n 4 (i' := 31) (ls' := [some (.inr (.inr 103)), some (.inr (.inl u)), none, some (.inr (.inl l)), none, some (.inl a), some (.inl k)]) (st' := [.inr (.inr 103), .inr (.inl u), .inr (.inl (y.1 * l))]) rfl ?_
        refine jw_W_gf rfl rfl rfl ?_
        show jw_W (js_S n) _ md_287 32 [some (.inr (.inr 103)), some (.inr (.inl u)), none, some (.inr (.inl l)), none, some (.inl a), some (.inl k)] [.inr (.inr 141), .inr (.inl u), .inr (.inl (y.1 * l))] σ _
        refine jw_W_n 1 (i' := 33) (ls' := [some (.inr (.inr 103)), some (.inr (.inl u)), none, some (.inr (.inl l)), none, some (.inl a), some (.inl k)]) (st' := [.inl k, .inr (.inr 141), .inr (.inl u), .inr (.inl (y.1 * l))]) rfl ?_
        refine jw_W_la rfl rfl (by omega) (by omega) (by omega) ?_
        show jw_W (js_S n) _ md_287 34 [some (.inr (.inr 103)), some (.inr (.inl u)), none, some (.inr (.inl l)), none, some (.inl a), some (.inl k)] [.inr (.inl (σ 141 k)), .inr (.inl u), .inr (.inl (y.1 * l))] σ _
        rw [hy2]
        refine jw_W_n 1 (i' := 35) (ls' := [some (.inr (.inr 103)), some (.inr (.inl u)), none, some (.inr (.inl l)), none, some (.inl a), some (.inl k)]) (st' := [.inr (.inl (u * y.2)), .inr (.inl (y.1 * l))]) rfl ?_
        refine jw_W_lc rfl rfl (by unfold jw_rgl; omega) (by unfold jw_rgl; omega) (fun hc3 => ?_) (fun hc3 => ?_)
        · have hc3 : (y.1 * l) ≥ (u * y.2) := hc3
          refine jw_W_n 2 (i' := 4) (ls' := [some (.inr (.inr 103)), some (.inr (.inl u)), none, some (.inr (.inl l)), none, some (.inl a), some (.inl (k + 1))]) (st' := []) rfl ?_
          refine ih (by omega) a0 (by omega) hlo (fun i z hz hi hik => ?_)
          by_cases e : (i : Int) = k
          · rw [show i = k.toNat by omega, hy] at hz
            cases hz
            unfold jn_lt
            simp only
            omega
          · exact hhi i z hz hi (by omega)
        · have hc3 : ¬ ((y.1 * l) ≥ (u * y.2)) := hc3
          refine jw_W_n 6 (i' := 4) (ls' := [some (.inr (.inr 103)), some (.inr (.inl u)), none, some (.inr (.inl l)), none, some (.inl (k + 1)), some (.inl (k + 1))]) (st' := []) rfl ?_
          refine ih (by omega) (by omega) (by omega) (fun i z hz hi => ?_) (fun i z hz hi hik => by omega)
          exact jn_below hs (fun y hy => (hLs y hy).2.1) hx.2.1 hy (by unfold jn_lt; simp only; omega) i z hz (by omega)
      · have hc2 : (y.1 * l) = (u * y.2) := Classical.not_not.mp hc2
        refine jw_W_re rfl ?_
        exact ⟨rfl, jn_f140_rf σ, L, hL, hs, fun z hz => .inl hz, fun z hz => hz, y, hym, by omega⟩
theorem jm_addsTurn {n : Nat} {σ : jw_H} {u l : Int} (hx : jn_sm (u, l)) {L : List (Int × Int)} (hLs : ∀ y ∈ L, jn_sm y) (hs : L.Pairwise jn_lt) (hL : jn_tw 140 141 103 66 σ L) (hl64 : L.length < 64) : jw_T (js_S n) 1 287 [.inr (.inr 103), .inr (.inl u), .inr (.inl l)] σ (fun r σ' => r = none ∧ jn_f140 σ σ' ∧ ∃ L', jn_tw 140 141 103 66 σ' L' ∧ L'.Pairwise jn_lt ∧ (∀ y ∈ L', y ∈ L ∨ y = (u, l)) ∧ (∀ y ∈ L, y ∈ L') ∧ ∃ y ∈ L', y.1 * l = u * y.2) := by
  refine jw_T_of (D := 0) (M := mm_287) rfl (Nat.le_of_ble_eq_true rfl) (ls0 := [some (.inr (.inr 103)), some (.inr (.inl u)), none, some (.inr (.inl l)), none, none, none]) rfl ?_ (by rintro _ _ ⟨rfl, -⟩; rfl)
  have hL1 := hL.1
  refine jw_W_n 4 (i' := 4) (ls' := [some (.inr (.inr 103)), some (.inr (.inl u)), none, some (.inr (.inl l)), none, some (.inl 0), some (.inl 0)]) (st' := []) rfl ?_
  refine jm_tin_1 hx hLs hs hL hl64 (fun {a k} hlo hhi ha hkl => ?_) L.length (a := 0) (k := 0) (by omega) (by omega) (by omega) (by omega) (fun i y hy hi => by omega) (fun i y hy hi hk => by omega)
  refine jw_W_n 1 (i' := 44) (ls' := [some (.inr (.inr 103)), some (.inr (.inl u)), none, some (.inr (.inl l)), none, some (.inl a), some (.inl k)]) (st' := [.inr (.inr 103)]) rfl ?_
  refine jw_W_gf rfl rfl rfl ?_
  show jw_W (js_S n) _ md_287 45 [some (.inr (.inr 103)), some (.inr (.inl u)), none, some (.inr (.inl l)), none, some (.inl a), some (.inl k)] [.inl (σ 103 66)] σ _
  refine jw_W_n 1 (i' := 46) (ls' := [some (.inr (.inr 103)), some (.inr (.inl u)), none, some (.inr (.inl l)), none, some (.inl a), some (.inl (σ 103 66))]) (st' := []) rfl ?_
  exact jm_tin_2 hs hl64 ha.1 ha.2 hlo hhi (L.length - a.toNat) (by omega) (by omega) (jn_f140_rf σ) (by rw [hL1]; exact jn_mv_0 hL) hL1

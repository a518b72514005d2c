/-! ===== the class: the ways from where planes are tight ===== -/
theorem jx_bitz {t k : Int} (ht : 0 ≤ t ∧ t ≤ 1048575) (k0 : 0 ≤ k) (k1 : k < 20) : (0 ≤ jw_and t (jw_shl 1 k) ∧ jw_and t (jw_shl 1 k) ≤ 1048575) ∧ (jw_and t (jw_shl 1 k) = 0 ↔ ¬ jb_in t k.toNat) := by
  obtain ⟨h1, h2⟩ := jm_one_in k0 k1
  have e := jb_and ht.1 (by omega) h1.1 (by omega)
  have hle : t.toNat &&& (jw_shl 1 k).toNat ≤ t.toNat := Nat.and_le_left
  refine ⟨by rw [e]; omega, ?_⟩
  constructor
  · intro hz hin
    have := (jm_and_in ht h1 k.toNat).mpr ⟨hin, (h2 _).mpr (by omega)⟩
    rw [hz] at this
    simp [jb_in] at this
  · intro hn
    rw [e]
    have hz : t.toNat &&& (jw_shl 1 k).toNat = 0 := by
      apply Nat.eq_of_testBit_eq
      intro i
      rw [Nat.zero_testBit]
      by_cases hi : (t.toNat &&& (jw_shl 1 k).toNat).testBit i = true
      · rw [Nat.testBit_and, Bool.and_eq_true] at hi
        have h3 := (h2 i).mp hi.2
        rw [show i = k.toNat by omega] at hi
        exact absurd hi.1 hn
      · exact Bool.eq_false_iff.mpr hi
    omega
theorem jx_shr {k : Int} (k0 : 0 ≤ k) (k1 : k < 20) : 0 ≤ jw_shl 1 k ∧ jw_shl 1 k ≤ 1048575 := (jm_one_in k0 k1).1
/-- rows of the planes that are tight, told by bits, so far -/
noncomputable def jx_wL (μ : jw_H) (t : Int) : Nat → List ge_R
  | 0 => []
  | k + 1 => if jb_in t k then jx_wL μ t k ++ [jx_rn μ (k : Int) 0] else jx_wL μ t k
theorem jx_wL_len (μ : jw_H) (t : Int) : ∀ k : Nat, (jx_wL μ t k).length ≤ k
  | 0 => Nat.le_refl _
  | k + 1 => by
    have := jx_wL_len μ t k
    unfold jx_wL
    split
    · rw [List.length_append]
      simp only [List.length_cons, List.length_nil]
      omega
    · omega
theorem jx_wL_mem {μ : jw_H} {t : Int} {r : ge_R} : ∀ {k : Nat}, r ∈ jx_wL μ t k ↔ ∃ i : Nat, i < k ∧ jb_in t i ∧ r = jx_rn μ (i : Int) 0
  | 0 => by
    simp [jx_wL]
  | k + 1 => by
    unfold jx_wL
    split
    · rename_i h
      rw [List.mem_append, List.mem_singleton, jx_wL_mem]
      constructor
      · rintro (⟨i, h1, h2, h3⟩ | h3)
        · exact ⟨i, by omega, h2, h3⟩
        · exact ⟨k, by omega, h, h3⟩
      · rintro ⟨i, h1, h2, h3⟩
        by_cases e : i = k
        · rw [e] at h3
          exact .inr h3
        · exact .inl ⟨i, by omega, h2, h3⟩
    · rename_i h
      rw [jx_wL_mem]
      constructor
      · rintro ⟨i, h1, h2, h3⟩
        exact ⟨i, by omega, h2, h3⟩
      · rintro ⟨i, h1, h2, h3⟩
        by_cases e : i = k
        · rw [e] at h2
          exact absurd h2 h
        · exact ⟨i, by omega, h2, h3⟩
/-- no wish less, so far; the wishes' numbers are given -/
def jx_wW (μ : jw_H) (m : Int → Int) (L : List ge_R) : Nat → List ge_R
  | 0 => L
  | k + 1 => jx_wW μ m L k ++ [jx_wr μ (k : Int) (m (k : Int))]
theorem jx_wW_len (μ : jw_H) (m : Int → Int) (L : List ge_R) : ∀ k : Nat, (jx_wW μ m L k).length = L.length + k
  | 0 => rfl
  | k + 1 => by
    have := jx_wW_len μ m L k
    unfold jx_wW
    rw [List.length_append, this]
    rfl
theorem jx_wW_mem {μ : jw_H} {m : Int → Int} {L : List ge_R} {r : ge_R} : ∀ {k : Nat}, r ∈ jx_wW μ m L k ↔ r ∈ L ∨ ∃ i : Nat, i < k ∧ r = jx_wr μ (i : Int) (m (i : Int))
  | 0 => by
    simp [jx_wW]
  | k + 1 => by
    unfold jx_wW
    rw [List.mem_append, List.mem_singleton, jx_wW_mem]
    constructor
    · rintro ((h | ⟨i, h1, h2⟩) | h)
      · exact .inl h
      · exact .inr ⟨i, by omega, h2⟩
      · exact .inr ⟨k, by omega, h⟩
    · rintro (h | ⟨i, h1, h2⟩)
      · exact .inl (.inl h)
      · by_cases e : i = k
        · rw [e] at h2
          exact .inr h2
        · exact .inl (.inr ⟨i, by omega, h2⟩)
/-- no way longer than 1 along a quantity -/
def jx_wx (q : Int) : List ge_R := if q = 1 then [jx_xr 0 (-1) 1, jx_xr 0 1 1, jx_xr 1 (-1) 0, jx_xr 2 (-1) 0] else if q = 2 then [jx_xr 0 (-1) 1, jx_xr 0 1 1, jx_xr 1 (-1) 1, jx_xr 1 1 1, jx_xr 2 (-1) 0] else [jx_xr 0 (-1) 1, jx_xr 0 1 1, jx_xr 1 (-1) 1, jx_xr 1 1 1, jx_xr 2 (-1) 1, jx_xr 2 1 1]
theorem jx_ways_1 {n : Nat} {σ0 : jw_H} {o : Nat} {t : Int} {D : Nat} {Q : Option jw_V → jw_H → Prop} (hD : 3 ≤ D) (hp : jx_po n o) (hP : jx_Pb σ0 o) (ht : 0 ≤ t ∧ t ≤ 1048575) (hQ : ∀ σ, jx_bs σ0 (jx_wL (jx_M σ0 o) t (σ0 o 2 + 2 * σ0 o 0).toNat) σ → jw_W (js_S n) D md_100 22 [some (.inr (.inr 47)), some (.inr (.inr o)), some (.inl t), some (.inl (σ0 o 2 + 2 * σ0 o 0))] [] σ Q) : ∀ (f : Nat) {σ : jw_H} {k : Int}, 0 ≤ k → k + f = σ0 o 2 + 2 * σ0 o 0 → jx_bs σ0 (jx_wL (jx_M σ0 o) t k.toNat) σ → jw_W (js_S n) D md_100 5 [some (.inr (.inr 47)), some (.inr (.inr o)), some (.inl t), some (.inl k)] [] σ Q
  | f, σ, k, k0, hk, H => by
    have ih : ∀ {σ' : jw_H}, k < σ0 o 2 + 2 * σ0 o 0 → jx_bs σ0 (jx_wL (jx_M σ0 o) t (k + 1).toNat) σ' → jw_W (js_S n) D md_100 5 [some (.inr (.inr 47)), some (.inr (.inr o)), some (.inl t), some (.inl (k + 1))] [] σ' Q := by
      intro σ' h1 h2
      match f, hk with
      | 0, hk => omega
      | f + 1, hk => exact jx_ways_1 hD hp hP ht hQ f (by omega) (by omega) h2
    have ho := hp.1
    have hq := hP.1
    have hw := hP.2.1
    have hq2 := hP.2.2.1
    have fo := jx_fb_o hp H.1
    have f0 : σ o 0 = σ0 o 0 := by rw [fo o (by omega) (by omega)]
    have f1 : σ o 1 = σ0 o 1 := by rw [fo o (by omega) (by omega)]
    have f2 : σ o 2 = σ0 o 2 := by rw [fo o (by omega) (by omega)]
    have hP1 := jx_Pb_fr fo hP
    have hpq := jx_M_fr fo
    have hl1 := H.2.1
    have hlen := jx_wL_len (jx_M σ0 o) t k.toNat
    refine jw_W_n 2 (i' := 7) (ls' := [some (.inr (.inr 47)), some (.inr (.inr o)), some (.inl t), some (.inl k)]) (st' := [.inr (.inr o), .inl k]) rfl ?_
    refine jw_W_call (as := [.inr (.inr o)]) (rest := [.inl k]) rfl rfl rfl rfl (Nat.le_of_ble_eq_true rfl) (.inr (jx_rc hp.2.1)) (jx_planes hp) (by omega) ?_ rfl
    rintro r1 σ1 ⟨rfl, hs⟩
    rw [hs]
    show jw_W (js_S n) _ md_100 8 [some (.inr (.inr 47)), some (.inr (.inr o)), some (.inl t), some (.inl k)] [.inl (σ o 2 + 2 * σ o 0), .inl k] σ _
    rw [f2, f0]
    refine jw_W_ic rfl (by unfold jw_rg; omega) (by unfold jw_rg; omega) (fun hc1 => ?_) (fun hc1 => ?_)
    · have hc1 : k ≥ (σ0 o 2 + 2 * σ0 o 0) := hc1
      have hkl : k = σ0 o 2 + 2 * σ0 o 0 := by omega
      subst hkl
      exact hQ _ H
    · have hc1 : ¬ (k ≥ (σ0 o 2 + 2 * σ0 o 0)) := hc1
      refine jw_W_n 5 (i' := 14) (ls' := [some (.inr (.inr 47)), some (.inr (.inr o)), some (.inl t), some (.inl k)]) (st' := [.inl (jw_and t (jw_shl 1 k))]) rfl ?_
      have hbt := jx_bitz ht k0 (by omega)
      refine jw_W_if rfl (by unfold jw_rg; omega) (fun hc2 => ?_) (fun hc2 => ?_)
      · have hc2 : (jw_and t (jw_shl 1 k)) = 0 := hc2
        refine jw_W_n 2 (i' := 5) (ls' := [some (.inr (.inr 47)), some (.inr (.inr o)), some (.inl t), some (.inl (k + 1))]) (st' := []) rfl ?_
        exact ih (by omega) (by rw [show (k + 1).toNat = k.toNat + 1 by omega]; unfold jx_wL; rw [if_neg (hbt.2.mp (by omega))]; exact H)
      · have hc2 : ¬ ((jw_and t (jw_shl 1 k)) = 0) := hc2
        refine jw_W_n 4 (i' := 19) (ls' := [some (.inr (.inr 47)), some (.inr (.inr o)), some (.inl t), some (.inl k)]) (st' := [.inl 0, .inl k, .inr (.inr o), .inr (.inr 47)]) rfl ?_
        refine jw_W_call (as := [.inr (.inr 47), .inr (.inr o), .inl k, .inl 0]) (rest := []) rfl rfl rfl rfl (Nat.le_of_ble_eq_true rfl) (.inr rfl) (jx_boundPlane hp hP1 k0 (by rw [f2, f0]; omega) (by omega) (by omega)) (by omega) ?_ rfl
        rintro r1 σ1 ⟨rfl, hs⟩
        rw [hs]
        show jw_W (js_S n) _ md_100 20 [some (.inr (.inr 47)), some (.inr (.inr o)), some (.inl t), some (.inl k)] [] ((jx_bo σ (jx_rn (jx_M σ o) k 0))) _
        refine jw_W_n 2 (i' := 5) (ls' := [some (.inr (.inr 47)), some (.inr (.inr o)), some (.inl t), some (.inl (k + 1))]) (st' := []) rfl ?_
        have hz := jx_bs_s (jx_rn (jx_M σ0 o) k 0) H
        rw [jx_pq_rn hpq k0]
        exact ih (by omega) (by
          rw [show (k + 1).toNat = k.toNat + 1 by omega]
          unfold jx_wL
          rw [if_pos (Classical.not_not.mp (fun hh => (show ¬ _ from by assumption) (hbt.2.mpr hh))), show ((k.toNat : Nat) : Int) = k by omega]
          exact hz)
theorem jx_ways_2 {n : Nat} {σ0 : jw_H} {o : Nat} {t : Int} {L : List ge_R} {D : Nat} {Q : Option jw_V → jw_H → Prop} (hD : 3 ≤ D) (hp : jx_po n o) (hP : jx_Pb σ0 o) (hL : L.length ≤ 10) (hQ : ∀ σ, jx_bs σ0 (jx_wW (jx_M σ0 o) (fun _ => 0) L (σ0 o 1).toNat) σ → jw_W (js_S n) D md_100 35 [some (.inr (.inr 47)), some (.inr (.inr o)), some (.inl t), some (.inl (σ0 o 1))] [] σ Q) : ∀ (f : Nat) {σ : jw_H} {k : Int}, 0 ≤ k → k + f = σ0 o 1 → jx_bs σ0 (jx_wW (jx_M σ0 o) (fun _ => 0) L k.toNat) σ → jw_W (js_S n) D md_100 24 [some (.inr (.inr 47)), some (.inr (.inr o)), some (.inl t), some (.inl k)] [] σ Q
  | f, σ, k, k0, hk, H => by
    have ih : ∀ {σ' : jw_H}, k < σ0 o 1 → jx_bs σ0 (jx_wW (jx_M σ0 o) (fun _ => 0) L (k + 1).toNat) σ' → jw_W (js_S n) D md_100 24 [some (.inr (.inr 47)), some (.inr (.inr o)), some (.inl t), some (.inl (k + 1))] [] σ' Q := by
      intro σ' h1 h2
      match f, hk with
      | 0, hk => omega
      | f + 1, hk => exact jx_ways_2 hD hp hP hL hQ f (by omega) (by omega) h2
    have ho := hp.1
    have hq := hP.1
    have hw := hP.2.1
    have hq2 := hP.2.2.1
    have fo := jx_fb_o hp H.1
    have f0 : σ o 0 = σ0 o 0 := by rw [fo o (by omega) (by omega)]
    have f1 : σ o 1 = σ0 o 1 := by rw [fo o (by omega) (by omega)]
    have f2 : σ o 2 = σ0 o 2 := by rw [fo o (by omega) (by omega)]
    have hP1 := jx_Pb_fr fo hP
    have hpq := jx_M_fr fo
    have hl1 := H.2.1
    have hlen := jx_wW_len (jx_M σ0 o) (fun _ => 0) L k.toNat
    refine jw_W_n 2 (i' := 26) (ls' := [some (.inr (.inr 47)), some (.inr (.inr o)), some (.inl t), some (.inl k)]) (st' := [.inr (.inr o), .inl k]) rfl ?_
    refine jw_W_gf rfl hp.2.1 rfl ?_
    show jw_W (js_S n) _ md_100 27 [some (.inr (.inr 47)), some (.inr (.inr o)), some (.inl t), some (.inl k)] [.inl (σ o 1), .inl k] σ _
    refine jw_W_ic rfl (by unfold jw_rg; omega) (by unfold jw_rg; omega) (fun hc1 => ?_) (fun hc1 => ?_)
    · have hc1 : k ≥ (σ o 1) := hc1
      have hkl : k = σ0 o 1 := by omega
      subst hkl
      exact hQ _ H
    · have hc1 : ¬ (k ≥ (σ o 1)) := hc1
      refine jw_W_n 4 (i' := 32) (ls' := [some (.inr (.inr 47)), some (.inr (.inr o)), some (.inl t), some (.inl k)]) (st' := [.inl 0, .inl k, .inr (.inr o), .inr (.inr 47)]) rfl ?_
      refine jw_W_call (as := [.inr (.inr 47), .inr (.inr o), .inl k, .inl 0]) (rest := []) rfl rfl rfl rfl (Nat.le_of_ble_eq_true rfl) (.inr rfl) (jx_boundWish hp k0 (by omega) (by omega) (by omega)) (by omega) ?_ rfl
      rintro r1 σ1 ⟨rfl, hs⟩
      rw [hs]
      show jw_W (js_S n) _ md_100 33 [some (.inr (.inr 47)), some (.inr (.inr o)), some (.inl t), some (.inl k)] [] ((jx_bo σ (jx_wr (jx_M σ o) k 0))) _
      refine jw_W_n 2 (i' := 24) (ls' := [some (.inr (.inr 47)), some (.inr (.inr o)), some (.inl t), some (.inl (k + 1))]) (st' := []) rfl ?_
      have hz := jx_bs_s (jx_wr (jx_M σ0 o) k 0) H
      rw [jx_pq_wr hpq k0 (by rw [jx_M4]; omega)]
      exact ih (by omega) (by
        rw [show (k + 1).toNat = k.toNat + 1 by omega]
        unfold jx_wW
        rw [show ((k.toNat : Nat) : Int) = k by omega]
        exact hz)
theorem jx_fillWays {n : Nat} {σ : jw_H} {o : Nat} (hp : jx_po n o) {t : Int} (hP : jx_Pb σ o) (ht : 0 ≤ t ∧ t ≤ 1048575) : jw_T (js_S n) 4 100 [.inr (.inr 47), .inr (.inr o), .inl t] σ (fun r σ' => r = none ∧ jx_bs σ (jx_wW (jx_M σ o) (fun _ => 0) (jx_wL (jx_M σ o) t (σ o 2 + 2 * σ o 0).toNat) (σ o 1).toNat ++ jx_wx (σ o 0)) σ') := by
  refine jw_T_of (D := 3) (M := mm_100) rfl (Nat.le_of_ble_eq_true rfl) (ls0 := [some (.inr (.inr 47)), some (.inr (.inr o)), some (.inl t), none]) rfl ?_ (by rintro _ _ ⟨rfl, -⟩; rfl)
  have ho := hp.1
  have hq := hP.1
  have hw := hP.2.1
  have hq2 := hP.2.2.1
  have hlen := jx_wL_len (jx_M σ o) t (σ o 2 + 2 * σ o 0).toNat
  refine jw_W_n 2 (i' := 2) (ls' := [some (.inr (.inr 47)), some (.inr (.inr o)), some (.inl t), none]) (st' := [.inl 0, .inr (.inr 47)]) rfl ?_
  refine jw_W_pf (a := 0) rfl (by omega) rfl rfl rfl rfl rfl ?_
  refine jw_W_n 2 (i' := 5) (ls' := [some (.inr (.inr 47)), some (.inr (.inr o)), some (.inl t), some (.inl 0)]) (st' := []) rfl ?_
  refine jx_ways_1 (D := 3) (by omega) hp hP ht (fun σ3 H3 => ?_) (σ o 2 + 2 * σ o 0).toNat (k := 0) (by omega) (by omega) ⟨⟨fun o h1 h2 => jw_up_out _ _ _ h1, fun j hj => jw_up_ne _ (by omega)⟩, jw_up_eq _ _ _ _, fun i r hr => by simp [jx_wL] at hr⟩
  refine jw_W_n 2 (i' := 24) (ls' := [some (.inr (.inr 47)), some (.inr (.inr o)), some (.inl t), some (.inl 0)]) (st' := []) rfl ?_
  refine jx_ways_2 (D := 3) (by omega) hp hP (by omega) (fun σ4 H4 => ?_) (σ o 1).toNat (k := 0) (by omega) (by omega) H3
  have hlen2 := jx_wW_len (jx_M σ o) (fun _ => 0) (jx_wL (jx_M σ o) t (σ o 2 + 2 * σ o 0).toNat) (σ o 1).toNat
  have hn4 := H4.2.1
  rcases (show σ o 0 = 1 ∨ σ o 0 = 2 ∨ σ o 0 = 3 by omega) with hq4 | hq4 | hq4
  · have f4 : σ4 o 0 = 1 := (congrFun (jx_fb_o hp H4.1 o (by omega) (by omega)) 0).trans hq4
    refine jw_W_n 4 (i' := 39) (ls' := [some (.inr (.inr 47)), some (.inr (.inr o)), some (.inl t), some (.inl 0)]) (st' := [.inl 3, .inl 0]) rfl ?_
    refine jw_W_ic rfl (by unfold jw_rg; omega) (by unfold jw_rg; omega) (fun hc1 => ?_) (fun hc1 => ?_)
    · exact absurd hc1 (show ¬ ((0 : Int) ≥ 3) by omega)
    · clear hc1
      refine jw_W_n 5 (i' := 45) (ls' := [some (.inr (.inr 47)), some (.inr (.inr o)), some (.inl t), some (.inl 0)]) (st' := [.inr (.inr o), .inl 0, .inl ((-1)), .inl 0, .inr (.inr 47)]) rfl ?_
      refine jw_W_gf rfl hp.2.1 rfl ?_
      show jw_W (js_S n) _ md_100 46 [some (.inr (.inr 47)), some (.inr (.inr o)), some (.inl t), some (.inl 0)] [.inl (σ4 o 0), .inl 0, .inl ((-1)), .inl 0, .inr (.inr 47)] σ4 _
      rw [show σ4 o 0 = 1 from f4]
      refine jw_W_ic rfl (by unfold jw_rg; omega) (by unfold jw_rg; omega) (fun hc2 => ?_) (fun hc2 => ?_)
      · exact absurd hc2 (show ¬ ((0 : Int) ≥ 1) by omega)
      · clear hc2
        refine jw_W_n 2 (i' := 50) (ls' := [some (.inr (.inr 47)), some (.inr (.inr o)), some (.inl t), some (.inl 0)]) (st' := [.inl 1, .inl ((-1)), .inl 0, .inr (.inr 47)]) rfl ?_
        refine jw_W_call (as := [.inr (.inr 47), .inl 0, .inl ((-1)), .inl 1]) (rest := []) rfl rfl rfl rfl (Nat.le_of_ble_eq_true rfl) (.inr rfl) (jx_boundAxis (by unfold jw_rg; omega) (by omega) (by omega)) (by omega) ?_ rfl
        rintro r1 σ1 ⟨rfl, hs⟩
        rw [hs]
        have H5 := jx_bs_s (jx_xr 0 ((-1)) 1) H4
        have f5 : (jx_bo σ4 (jx_xr 0 ((-1)) 1)) o 0 = 1 := (congrFun (jx_fb_o hp H5.1 o (by omega) (by omega)) 0).trans hq4
        have hn5 := H5.2.1
        simp only [List.length_append, List.length_cons, List.length_nil] at hn5
        show jw_W (js_S n) _ md_100 51 [some (.inr (.inr 47)), some (.inr (.inr o)), some (.inl t), some (.inl 0)] [] ((jx_bo σ4 (jx_xr 0 ((-1)) 1))) _
        refine jw_W_n 2 (i' := 53) (ls' := [some (.inr (.inr 47)), some (.inr (.inr o)), some (.inl t), some (.inl 0)]) (st' := [.inr (.inr o), .inl 0]) rfl ?_
        refine jw_W_gf rfl hp.2.1 rfl ?_
        show jw_W (js_S n) _ md_100 54 [some (.inr (.inr 47)), some (.inr (.inr o)), some (.inl t), some (.inl 0)] [.inl ((jx_bo σ4 (jx_xr 0 ((-1)) 1)) o 0), .inl 0] ((jx_bo σ4 (jx_xr 0 ((-1)) 1))) _
        rw [show (jx_bo σ4 (jx_xr 0 ((-1)) 1)) o 0 = 1 from f5]
        refine jw_W_ic rfl (by unfold jw_rg; omega) (by unfold jw_rg; omega) (fun hc3 => ?_) (fun hc3 => ?_)
        · exact absurd hc3 (show ¬ ((0 : Int) ≥ 1) by omega)
        · clear hc3
          refine jw_W_n 4 (i' := 59) (ls' := [some (.inr (.inr 47)), some (.inr (.inr o)), some (.inl t), some (.inl 0)]) (st' := [.inl 1, .inl 1, .inl 0, .inr (.inr 47)]) rfl ?_
          refine jw_W_call (as := [.inr (.inr 47), .inl 0, .inl 1, .inl 1]) (rest := []) rfl rfl rfl rfl (Nat.le_of_ble_eq_true rfl) (.inr rfl) (jx_boundAxis (by unfold jw_rg; omega) (by omega) (by omega)) (by omega) ?_ rfl
          rintro r1 σ1 ⟨rfl, hs⟩
          rw [hs]
          have H6 := jx_bs_s (jx_xr 0 1 1) H5
          have f6 : (jx_bo (jx_bo σ4 (jx_xr 0 ((-1)) 1)) (jx_xr 0 1 1)) o 0 = 1 := (congrFun (jx_fb_o hp H6.1 o (by omega) (by omega)) 0).trans hq4
          have hn6 := H6.2.1
          simp only [List.length_append, List.length_cons, List.length_nil] at hn6
          show jw_W (js_S n) _ md_100 60 [some (.inr (.inr 47)), some (.inr (.inr o)), some (.inl t), some (.inl 0)] [] ((jx_bo (jx_bo σ4 (jx_xr 0 ((-1)) 1)) (jx_xr 0 1 1))) _
          refine jw_W_n 4 (i' := 39) (ls' := [some (.inr (.inr 47)), some (.inr (.inr o)), some (.inl t), some (.inl 1)]) (st' := [.inl 3, .inl 1]) rfl ?_
          refine jw_W_ic rfl (by unfold jw_rg; omega) (by unfold jw_rg; omega) (fun hc4 => ?_) (fun hc4 => ?_)
          · exact absurd hc4 (show ¬ ((1 : Int) ≥ 3) by omega)
          · clear hc4
            refine jw_W_n 5 (i' := 45) (ls' := [some (.inr (.inr 47)), some (.inr (.inr o)), some (.inl t), some (.inl 1)]) (st' := [.inr (.inr o), .inl 1, .inl ((-1)), .inl 1, .inr (.inr 47)]) rfl ?_
            refine jw_W_gf rfl hp.2.1 rfl ?_
            show jw_W (js_S n) _ md_100 46 [some (.inr (.inr 47)), some (.inr (.inr o)), some (.inl t), some (.inl 1)] [.inl ((jx_bo (jx_bo σ4 (jx_xr 0 ((-1)) 1)) (jx_xr 0 1 1)) o 0), .inl 1, .inl ((-1)), .inl 1, .inr (.inr 47)] ((jx_bo (jx_bo σ4 (jx_xr 0 ((-1)) 1)) (jx_xr 0 1 1))) _
            rw [show (jx_bo (jx_bo σ4 (jx_xr 0 ((-1)) 1)) (jx_xr 0 1 1)) o 0 = 1 from f6]
            refine jw_W_ic rfl (by unfold jw_rg; omega) (by unfold jw_rg; omega) (fun hc5 => ?_) (fun hc5 => ?_)
            · clear hc5
              refine jw_W_n 1 (i' := 50) (ls' := [some (.inr (.inr 47)), some (.inr (.inr o)), some (.inl t), some (.inl 1)]) (st' := [.inl 0, .inl ((-1)), .inl 1, .inr (.inr 47)]) rfl ?_
              refine jw_W_call (as := [.inr (.inr 47), .inl 1, .inl ((-1)), .inl 0]) (rest := []) rfl rfl rfl rfl (Nat.le_of_ble_eq_true rfl) (.inr rfl) (jx_boundAxis (by unfold jw_rg; omega) (by omega) (by omega)) (by omega) ?_ rfl
              rintro r1 σ1 ⟨rfl, hs⟩
              rw [hs]
              have H7 := jx_bs_s (jx_xr 1 ((-1)) 0) H6
              have f7 : (jx_bo (jx_bo (jx_bo σ4 (jx_xr 0 ((-1)) 1)) (jx_xr 0 1 1)) (jx_xr 1 ((-1)) 0)) o 0 = 1 := (congrFun (jx_fb_o hp H7.1 o (by omega) (by omega)) 0).trans hq4
              have hn7 := H7.2.1
              simp only [List.length_append, List.length_cons, List.length_nil] at hn7
              show jw_W (js_S n) _ md_100 51 [some (.inr (.inr 47)), some (.inr (.inr o)), some (.inl t), some (.inl 1)] [] ((jx_bo (jx_bo (jx_bo σ4 (jx_xr 0 ((-1)) 1)) (jx_xr 0 1 1)) (jx_xr 1 ((-1)) 0))) _
              refine jw_W_n 2 (i' := 53) (ls' := [some (.inr (.inr 47)), some (.inr (.inr o)), some (.inl t), some (.inl 1)]) (st' := [.inr (.inr o), .inl 1]) rfl ?_
              refine jw_W_gf rfl hp.2.1 rfl ?_
              show jw_W (js_S n) _ md_100 54 [some (.inr (.inr 47)), some (.inr (.inr o)), some (.inl t), some (.inl 1)] [.inl ((jx_bo (jx_bo (jx_bo σ4 (jx_xr 0 ((-1)) 1)) (jx_xr 0 1 1)) (jx_xr 1 ((-1)) 0)) o 0), .inl 1] ((jx_bo (jx_bo (jx_bo σ4 (jx_xr 0 ((-1)) 1)) (jx_xr 0 1 1)) (jx_xr 1 ((-1)) 0))) _
              rw [show (jx_bo (jx_bo (jx_bo σ4 (jx_xr 0 ((-1)) 1)) (jx_xr 0 1 1)) (jx_xr 1 ((-1)) 0)) o 0 = 1 from f7]
              refine jw_W_ic rfl (by unfold jw_rg; omega) (by unfold jw_rg; omega) (fun hc6 => ?_) (fun hc6 => ?_)
              · clear hc6
                refine jw_W_n 4 (i' := 39) (ls' := [some (.inr (.inr 47)), some (.inr (.inr o)), some (.inl t), some (.inl 2)]) (st' := [.inl 3, .inl 2]) rfl ?_
                refine jw_W_ic rfl (by unfold jw_rg; omega) (by unfold jw_rg; omega) (fun hc7 => ?_) (fun hc7 => ?_)
                · exact absurd hc7 (show ¬ ((2 : Int) ≥ 3) by omega)
                · clear hc7
                  refine jw_W_n 5 (i' := 45) (ls' := [some (.inr (.inr 47)), some (.inr (.inr o)), some (.inl t), some (.inl 2)]) (st' := [.inr (.inr o), .inl 2, .inl ((-1)), .inl 2, .inr (.inr 47)]) rfl ?_
                  refine jw_W_gf rfl hp.2.1 rfl ?_
                  show jw_W (js_S n) _ md_100 46 [some (.inr (.inr 47)), some (.inr (.inr o)), some (.inl t), some (.inl 2)] [.inl ((jx_bo (jx_bo (jx_bo σ4 (jx_xr 0 ((-1)) 1)) (jx_xr 0 1 1)) (jx_xr 1 ((-1)) 0)) o 0), .inl 2, .inl ((-1)), .inl 2, .inr (.inr 47)] ((jx_bo (jx_bo (jx_bo σ4 (jx_xr 0 ((-1)) 1)) (jx_xr 0 1 1)) (jx_xr 1 ((-1)) 0))) _
                  rw [show (jx_bo (jx_bo (jx_bo σ4 (jx_xr 0 ((-1)) 1)) (jx_xr 0 1 1)) (jx_xr 1 ((-1)) 0)) o 0 = 1 from f7]
                  refine jw_W_ic rfl (by unfold jw_rg; omega) (by unfold jw_rg; omega) (fun hc8 => ?_) (fun hc8 => ?_)
                  · clear hc8
                    refine jw_W_n 1 (i' := 50) (ls' := [some (.inr (.inr 47)), some (.inr (.inr o)), some (.inl t), some (.inl 2)]) (st' := [.inl 0, .inl ((-1)), .inl 2, .inr (.inr 47)]) rfl ?_
                    refine jw_W_call (as := [.inr (.inr 47), .inl 2, .inl ((-1)), .inl 0]) (rest := []) rfl rfl rfl rfl (Nat.le_of_ble_eq_true rfl) (.inr rfl) (jx_boundAxis (by unfold jw_rg; omega) (by omega) (by omega)) (by omega) ?_ rfl
                    rintro r1 σ1 ⟨rfl, hs⟩
                    rw [hs]
                    have H8 := jx_bs_s (jx_xr 2 ((-1)) 0) H7
                    have f8 : (jx_bo (jx_bo (jx_bo (jx_bo σ4 (jx_xr 0 ((-1)) 1)) (jx_xr 0 1 1)) (jx_xr 1 ((-1)) 0)) (jx_xr 2 ((-1)) 0)) o 0 = 1 := (congrFun (jx_fb_o hp H8.1 o (by omega) (by omega)) 0).trans hq4
                    have hn8 := H8.2.1
                    simp only [List.length_append, List.length_cons, List.length_nil] at hn8
                    show jw_W (js_S n) _ md_100 51 [some (.inr (.inr 47)), some (.inr (.inr o)), some (.inl t), some (.inl 2)] [] ((jx_bo (jx_bo (jx_bo (jx_bo σ4 (jx_xr 0 ((-1)) 1)) (jx_xr 0 1 1)) (jx_xr 1 ((-1)) 0)) (jx_xr 2 ((-1)) 0))) _
                    refine jw_W_n 2 (i' := 53) (ls' := [some (.inr (.inr 47)), some (.inr (.inr o)), some (.inl t), some (.inl 2)]) (st' := [.inr (.inr o), .inl 2]) rfl ?_
                    refine jw_W_gf rfl hp.2.1 rfl ?_
                    show jw_W (js_S n) _ md_100 54 [some (.inr (.inr 47)), some (.inr (.inr o)), some (.inl t), some (.inl 2)] [.inl ((jx_bo (jx_bo (jx_bo (jx_bo σ4 (jx_xr 0 ((-1)) 1)) (jx_xr 0 1 1)) (jx_xr 1 ((-1)) 0)) (jx_xr 2 ((-1)) 0)) o 0), .inl 2] ((jx_bo (jx_bo (jx_bo (jx_bo σ4 (jx_xr 0 ((-1)) 1)) (jx_xr 0 1 1)) (jx_xr 1 ((-1)) 0)) (jx_xr 2 ((-1)) 0))) _
                    rw [show (jx_bo (jx_bo (jx_bo (jx_bo σ4 (jx_xr 0 ((-1)) 1)) (jx_xr 0 1 1)) (jx_xr 1 ((-1)) 0)) (jx_xr 2 ((-1)) 0)) o 0 = 1 from f8]
                    refine jw_W_ic rfl (by unfold jw_rg; omega) (by unfold jw_rg; omega) (fun hc9 => ?_) (fun hc9 => ?_)
                    · clear hc9
                      refine jw_W_n 4 (i' := 39) (ls' := [some (.inr (.inr 47)), some (.inr (.inr o)), some (.inl t), some (.inl 3)]) (st' := [.inl 3, .inl 3]) rfl ?_
                      refine jw_W_ic rfl (by unfold jw_rg; omega) (by unfold jw_rg; omega) (fun hc10 => ?_) (fun hc10 => ?_)
                      · clear hc10
                        refine jw_W_re rfl ?_
                        refine ⟨rfl, ?_⟩
                        rw [show jx_wx (σ o 0) = jx_wx 1 from by rw [hq4]]
                        simp only [List.append_assoc, List.cons_append, List.nil_append] at H8
                        exact H8
                      · exact absurd hc10 (show ¬ ¬ ((3 : Int) ≥ 3) by omega)
                    · exact absurd hc9 (show ¬ ¬ ((2 : Int) ≥ 1) by omega)
                  · exact absurd hc8 (show ¬ ¬ ((2 : Int) ≥ 1) by omega)
              · exact absurd hc6 (show ¬ ¬ ((1 : Int) ≥ 1) by omega)
            · exact absurd hc5 (show ¬ ¬ ((1 : Int) ≥ 1) by omega)
  · have f4 : σ4 o 0 = 2 := (congrFun (jx_fb_o hp H4.1 o (by omega) (by omega)) 0).trans hq4
    refine jw_W_n 4 (i' := 39) (ls' := [some (.inr (.inr 47)), some (.inr (.inr o)), some (.inl t), some (.inl 0)]) (st' := [.inl 3, .inl 0]) rfl ?_
    refine jw_W_ic rfl (by unfold jw_rg; omega) (by unfold jw_rg; omega) (fun hc1 => ?_) (fun hc1 => ?_)
    · exact absurd hc1 (show ¬ ((0 : Int) ≥ 3) by omega)
    · clear hc1
      refine jw_W_n 5 (i' := 45) (ls' := [some (.inr (.inr 47)), some (.inr (.inr o)), some (.inl t), some (.inl 0)]) (st' := [.inr (.inr o), .inl 0, .inl ((-1)), .inl 0, .inr (.inr 47)]) rfl ?_
      refine jw_W_gf rfl hp.2.1 rfl ?_
      show jw_W (js_S n) _ md_100 46 [some (.inr (.inr 47)), some (.inr (.inr o)), some (.inl t), some (.inl 0)] [.inl (σ4 o 0), .inl 0, .inl ((-1)), .inl 0, .inr (.inr 47)] σ4 _
      rw [show σ4 o 0 = 2 from f4]
      refine jw_W_ic rfl (by unfold jw_rg; omega) (by unfold jw_rg; omega) (fun hc2 => ?_) (fun hc2 => ?_)
      · exact absurd hc2 (show ¬ ((0 : Int) ≥ 2) by omega)
      · clear hc2
        refine jw_W_n 2 (i' := 50) (ls' := [some (.inr (.inr 47)), some (.inr (.inr o)), some (.inl t), some (.inl 0)]) (st' := [.inl 1, .inl ((-1)), .inl 0, .inr (.inr 47)]) rfl ?_
        refine jw_W_call (as := [.inr (.inr 47), .inl 0, .inl ((-1)), .inl 1]) (rest := []) rfl rfl rfl rfl (Nat.le_of_ble_eq_true rfl) (.inr rfl) (jx_boundAxis (by unfold jw_rg; omega) (by omega) (by omega)) (by omega) ?_ rfl
        rintro r1 σ1 ⟨rfl, hs⟩
        rw [hs]
        have H5 := jx_bs_s (jx_xr 0 ((-1)) 1) H4
        have f5 : (jx_bo σ4 (jx_xr 0 ((-1)) 1)) o 0 = 2 := (congrFun (jx_fb_o hp H5.1 o (by omega) (by omega)) 0).trans hq4
        have hn5 := H5.2.1
        simp only [List.length_append, List.length_cons, List.length_nil] at hn5
        show jw_W (js_S n) _ md_100 51 [some (.inr (.inr 47)), some (.inr (.inr o)), some (.inl t), some (.inl 0)] [] ((jx_bo σ4 (jx_xr 0 ((-1)) 1))) _
        refine jw_W_n 2 (i' := 53) (ls' := [some (.inr (.inr 47)), some (.inr (.inr o)), some (.inl t), some (.inl 0)]) (st' := [.inr (.inr o), .inl 0]) rfl ?_
        refine jw_W_gf rfl hp.2.1 rfl ?_
        show jw_W (js_S n) _ md_100 54 [some (.inr (.inr 47)), some (.inr (.inr o)), some (.inl t), some (.inl 0)] [.inl ((jx_bo σ4 (jx_xr 0 ((-1)) 1)) o 0), .inl 0] ((jx_bo σ4 (jx_xr 0 ((-1)) 1))) _
        rw [show (jx_bo σ4 (jx_xr 0 ((-1)) 1)) o 0 = 2 from f5]
        refine jw_W_ic rfl (by unfold jw_rg; omega) (by unfold jw_rg; omega) (fun hc3 => ?_) (fun hc3 => ?_)
        · exact absurd hc3 (show ¬ ((0 : Int) ≥ 2) by omega)
        · clear hc3
          refine jw_W_n 4 (i' := 59) (ls' := [some (.inr (.inr 47)), some (.inr (.inr o)), some (.inl t), some (.inl 0)]) (st' := [.inl 1, .inl 1, .inl 0, .inr (.inr 47)]) rfl ?_
          refine jw_W_call (as := [.inr (.inr 47), .inl 0, .inl 1, .inl 1]) (rest := []) rfl rfl rfl rfl (Nat.le_of_ble_eq_true rfl) (.inr rfl) (jx_boundAxis (by unfold jw_rg; omega) (by omega) (by omega)) (by omega) ?_ rfl
          rintro r1 σ1 ⟨rfl, hs⟩
          rw [hs]
          have H6 := jx_bs_s (jx_xr 0 1 1) H5
          have f6 : (jx_bo (jx_bo σ4 (jx_xr 0 ((-1)) 1)) (jx_xr 0 1 1)) o 0 = 2 := (congrFun (jx_fb_o hp H6.1 o (by omega) (by omega)) 0).trans hq4
          have hn6 := H6.2.1
          simp only [List.length_append, List.length_cons, List.length_nil] at hn6
          show jw_W (js_S n) _ md_100 60 [some (.inr (.inr 47)), some (.inr (.inr o)), some (.inl t), some (.inl 0)] [] ((jx_bo (jx_bo σ4 (jx_xr 0 ((-1)) 1)) (jx_xr 0 1 1))) _
          refine jw_W_n 4 (i' := 39) (ls' := [some (.inr (.inr 47)), some (.inr (.inr o)), some (.inl t), some (.inl 1)]) (st' := [.inl 3, .inl 1]) rfl ?_
          refine jw_W_ic rfl (by unfold jw_rg; omega) (by unfold jw_rg; omega) (fun hc4 => ?_) (fun hc4 => ?_)
          · exact absurd hc4 (show ¬ ((1 : Int) ≥ 3) by omega)
          · clear hc4
            refine jw_W_n 5 (i' := 45) (ls' := [some (.inr (.inr 47)), some (.inr (.inr o)), some (.inl t), some (.inl 1)]) (st' := [.inr (.inr o), .inl 1, .inl ((-1)), .inl 1, .inr (.inr 47)]) rfl ?_
            refine jw_W_gf rfl hp.2.1 rfl ?_
            show jw_W (js_S n) _ md_100 46 [some (.inr (.inr 47)), some (.inr (.inr o)), some (.inl t), some (.inl 1)] [.inl ((jx_bo (jx_bo σ4 (jx_xr 0 ((-1)) 1)) (jx_xr 0 1 1)) o 0), .inl 1, .inl ((-1)), .inl 1, .inr (.inr 47)] ((jx_bo (jx_bo σ4 (jx_xr 0 ((-1)) 1)) (jx_xr 0 1 1))) _
            rw [show (jx_bo (jx_bo σ4 (jx_xr 0 ((-1)) 1)) (jx_xr 0 1 1)) o 0 = 2 from f6]
            refine jw_W_ic rfl (by unfold jw_rg; omega) (by unfold jw_rg; omega) (fun hc5 => ?_) (fun hc5 => ?_)
            · exact absurd hc5 (show ¬ ((1 : Int) ≥ 2) by omega)
            · clear hc5
              refine jw_W_n 2 (i' := 50) (ls' := [some (.inr (.inr 47)), some (.inr (.inr o)), some (.inl t), some (.inl 1)]) (st' := [.inl 1, .inl ((-1)), .inl 1, .inr (.inr 47)]) rfl ?_
              refine jw_W_call (as := [.inr (.inr 47), .inl 1, .inl ((-1)), .inl 1]) (rest := []) rfl rfl rfl rfl (Nat.le_of_ble_eq_true rfl) (.inr rfl) (jx_boundAxis (by unfold jw_rg; omega) (by omega) (by omega)) (by omega) ?_ rfl
              rintro r1 σ1 ⟨rfl, hs⟩
              rw [hs]
              have H7 := jx_bs_s (jx_xr 1 ((-1)) 1) H6
              have f7 : (jx_bo (jx_bo (jx_bo σ4 (jx_xr 0 ((-1)) 1)) (jx_xr 0 1 1)) (jx_xr 1 ((-1)) 1)) o 0 = 2 := (congrFun (jx_fb_o hp H7.1 o (by omega) (by omega)) 0).trans hq4
              have hn7 := H7.2.1
              simp only [List.length_append, List.length_cons, List.length_nil] at hn7
              show jw_W (js_S n) _ md_100 51 [some (.inr (.inr 47)), some (.inr (.inr o)), some (.inl t), some (.inl 1)] [] ((jx_bo (jx_bo (jx_bo σ4 (jx_xr 0 ((-1)) 1)) (jx_xr 0 1 1)) (jx_xr 1 ((-1)) 1))) _
              refine jw_W_n 2 (i' := 53) (ls' := [some (.inr (.inr 47)), some (.inr (.inr o)), some (.inl t), some (.inl 1)]) (st' := [.inr (.inr o), .inl 1]) rfl ?_
              refine jw_W_gf rfl hp.2.1 rfl ?_
              show jw_W (js_S n) _ md_100 54 [some (.inr (.inr 47)), some (.inr (.inr o)), some (.inl t), some (.inl 1)] [.inl ((jx_bo (jx_bo (jx_bo σ4 (jx_xr 0 ((-1)) 1)) (jx_xr 0 1 1)) (jx_xr 1 ((-1)) 1)) o 0), .inl 1] ((jx_bo (jx_bo (jx_bo σ4 (jx_xr 0 ((-1)) 1)) (jx_xr 0 1 1)) (jx_xr 1 ((-1)) 1))) _
              rw [show (jx_bo (jx_bo (jx_bo σ4 (jx_xr 0 ((-1)) 1)) (jx_xr 0 1 1)) (jx_xr 1 ((-1)) 1)) o 0 = 2 from f7]
              refine jw_W_ic rfl (by unfold jw_rg; omega) (by unfold jw_rg; omega) (fun hc6 => ?_) (fun hc6 => ?_)
              · exact absurd hc6 (show ¬ ((1 : Int) ≥ 2) by omega)
              · clear hc6
                refine jw_W_n 4 (i' := 59) (ls' := [some (.inr (.inr 47)), some (.inr (.inr o)), some (.inl t), some (.inl 1)]) (st' := [.inl 1, .inl 1, .inl 1, .inr (.inr 47)]) rfl ?_
                refine jw_W_call (as := [.inr (.inr 47), .inl 1, .inl 1, .inl 1]) (rest := []) rfl rfl rfl rfl (Nat.le_of_ble_eq_true rfl) (.inr rfl) (jx_boundAxis (by unfold jw_rg; omega) (by omega) (by omega)) (by omega) ?_ rfl
                rintro r1 σ1 ⟨rfl, hs⟩
                rw [hs]
                have H8 := jx_bs_s (jx_xr 1 1 1) H7
                have f8 : (jx_bo (jx_bo (jx_bo (jx_bo σ4 (jx_xr 0 ((-1)) 1)) (jx_xr 0 1 1)) (jx_xr 1 ((-1)) 1)) (jx_xr 1 1 1)) o 0 = 2 := (congrFun (jx_fb_o hp H8.1 o (by omega) (by omega)) 0).trans hq4
                have hn8 := H8.2.1
                simp only [List.length_append, List.length_cons, List.length_nil] at hn8
                show jw_W (js_S n) _ md_100 60 [some (.inr (.inr 47)), some (.inr (.inr o)), some (.inl t), some (.inl 1)] [] ((jx_bo (jx_bo (jx_bo (jx_bo σ4 (jx_xr 0 ((-1)) 1)) (jx_xr 0 1 1)) (jx_xr 1 ((-1)) 1)) (jx_xr 1 1 1))) _
                refine jw_W_n 4 (i' := 39) (ls' := [some (.inr (.inr 47)), some (.inr (.inr o)), some (.inl t), some (.inl 2)]) (st' := [.inl 3, .inl 2]) rfl ?_
                refine jw_W_ic rfl (by unfold jw_rg; omega) (by unfold jw_rg; omega) (fun hc7 => ?_) (fun hc7 => ?_)
                · exact absurd hc7 (show ¬ ((2 : Int) ≥ 3) by omega)
                · clear hc7
                  refine jw_W_n 5 (i' := 45) (ls' := [some (.inr (.inr 47)), some (.inr (.inr o)), some (.inl t), some (.inl 2)]) (st' := [.inr (.inr o), .inl 2, .inl ((-1)), .inl 2, .inr (.inr 47)]) rfl ?_
                  refine jw_W_gf rfl hp.2.1 rfl ?_
                  show jw_W (js_S n) _ md_100 46 [some (.inr (.inr 47)), some (.inr (.inr o)), some (.inl t), some (.inl 2)] [.inl ((jx_bo (jx_bo (jx_bo (jx_bo σ4 (jx_xr 0 ((-1)) 1)) (jx_xr 0 1 1)) (jx_xr 1 ((-1)) 1)) (jx_xr 1 1 1)) o 0), .inl 2, .inl ((-1)), .inl 2, .inr (.inr 47)] ((jx_bo (jx_bo (jx_bo (jx_bo σ4 (jx_xr 0 ((-1)) 1)) (jx_xr 0 1 1)) (jx_xr 1 ((-1)) 1)) (jx_xr 1 1 1))) _
                  rw [show (jx_bo (jx_bo (jx_bo (jx_bo σ4 (jx_xr 0 ((-1)) 1)) (jx_xr 0 1 1)) (jx_xr 1 ((-1)) 1)) (jx_xr 1 1 1)) o 0 = 2 from f8]
                  refine jw_W_ic rfl (by unfold jw_rg; omega) (by unfold jw_rg; omega) (fun hc8 => ?_) (fun hc8 => ?_)
                  · clear hc8
                    refine jw_W_n 1 (i' := 50) (ls' := [some (.inr (.inr 47)), some (.inr (.inr o)), some (.inl t), some (.inl 2)]) (st' := [.inl 0, .inl ((-1)), .inl 2, .inr (.inr 47)]) rfl ?_
                    refine jw_W_call (as := [.inr (.inr 47), .inl 2, .inl ((-1)), .inl 0]) (rest := []) rfl rfl rfl rfl (Nat.le_of_ble_eq_true rfl) (.inr rfl) (jx_boundAxis (by unfold jw_rg; omega) (by omega) (by omega)) (by omega) ?_ rfl
                    rintro r1 σ1 ⟨rfl, hs⟩
                    rw [hs]
                    have H9 := jx_bs_s (jx_xr 2 ((-1)) 0) H8
                    have f9 : (jx_bo (jx_bo (jx_bo (jx_bo (jx_bo σ4 (jx_xr 0 ((-1)) 1)) (jx_xr 0 1 1)) (jx_xr 1 ((-1)) 1)) (jx_xr 1 1 1)) (jx_xr 2 ((-1)) 0)) o 0 = 2 := (congrFun (jx_fb_o hp H9.1 o (by omega) (by omega)) 0).trans hq4
                    have hn9 := H9.2.1
                    simp only [List.length_append, List.length_cons, List.length_nil] at hn9
                    show jw_W (js_S n) _ md_100 51 [some (.inr (.inr 47)), some (.inr (.inr o)), some (.inl t), some (.inl 2)] [] ((jx_bo (jx_bo (jx_bo (jx_bo (jx_bo σ4 (jx_xr 0 ((-1)) 1)) (jx_xr 0 1 1)) (jx_xr 1 ((-1)) 1)) (jx_xr 1 1 1)) (jx_xr 2 ((-1)) 0))) _
                    refine jw_W_n 2 (i' := 53) (ls' := [some (.inr (.inr 47)), some (.inr (.inr o)), some (.inl t), some (.inl 2)]) (st' := [.inr (.inr o), .inl 2]) rfl ?_
                    refine jw_W_gf rfl hp.2.1 rfl ?_
                    show jw_W (js_S n) _ md_100 54 [some (.inr (.inr 47)), some (.inr (.inr o)), some (.inl t), some (.inl 2)] [.inl ((jx_bo (jx_bo (jx_bo (jx_bo (jx_bo σ4 (jx_xr 0 ((-1)) 1)) (jx_xr 0 1 1)) (jx_xr 1 ((-1)) 1)) (jx_xr 1 1 1)) (jx_xr 2 ((-1)) 0)) o 0), .inl 2] ((jx_bo (jx_bo (jx_bo (jx_bo (jx_bo σ4 (jx_xr 0 ((-1)) 1)) (jx_xr 0 1 1)) (jx_xr 1 ((-1)) 1)) (jx_xr 1 1 1)) (jx_xr 2 ((-1)) 0))) _
                    rw [show (jx_bo (jx_bo (jx_bo (jx_bo (jx_bo σ4 (jx_xr 0 ((-1)) 1)) (jx_xr 0 1 1)) (jx_xr 1 ((-1)) 1)) (jx_xr 1 1 1)) (jx_xr 2 ((-1)) 0)) o 0 = 2 from f9]
                    refine jw_W_ic rfl (by unfold jw_rg; omega) (by unfold jw_rg; omega) (fun hc9 => ?_) (fun hc9 => ?_)
                    · clear hc9
                      refine jw_W_n 4 (i' := 39) (ls' := [some (.inr (.inr 47)), some (.inr (.inr o)), some (.inl t), some (.inl 3)]) (st' := [.inl 3, .inl 3]) rfl ?_
                      refine jw_W_ic rfl (by unfold jw_rg; omega) (by unfold jw_rg; omega) (fun hc10 => ?_) (fun hc10 => ?_)
                      · clear hc10
                        refine jw_W_re rfl ?_
                        refine ⟨rfl, ?_⟩
                        rw [show jx_wx (σ o 0) = jx_wx 2 from by rw [hq4]]
                        simp only [List.append_assoc, List.cons_append, List.nil_append] at H9
                        exact H9
                      · exact absurd hc10 (show ¬ ¬ ((3 : Int) ≥ 3) by omega)
                    · exact absurd hc9 (show ¬ ¬ ((2 : Int) ≥ 2) by omega)
                  · exact absurd hc8 (show ¬ ¬ ((2 : Int) ≥ 2) by omega)
  · have f4 : σ4 o 0 = 3 := (congrFun (jx_fb_o hp H4.1 o (by omega) (by omega)) 0).trans hq4
    refine jw_W_n 4 (i' := 39) (ls' := [some (.inr (.inr 47)), some (.inr (.inr o)), some (.inl t), some (.inl 0)]) (st' := [.inl 3, .inl 0]) rfl ?_
    refine jw_W_ic rfl (by unfold jw_rg; omega) (by unfold jw_rg; omega) (fun hc1 => ?_) (fun hc1 => ?_)
    · exact absurd hc1 (show ¬ ((0 : Int) ≥ 3) by omega)
    · clear hc1
      refine jw_W_n 5 (i' := 45) (ls' := [some (.inr (.inr 47)), some (.inr (.inr o)), some (.inl t), some (.inl 0)]) (st' := [.inr (.inr o), .inl 0, .inl ((-1)), .inl 0, .inr (.inr 47)]) rfl ?_
      refine jw_W_gf rfl hp.2.1 rfl ?_
      show jw_W (js_S n) _ md_100 46 [some (.inr (.inr 47)), some (.inr (.inr o)), some (.inl t), some (.inl 0)] [.inl (σ4 o 0), .inl 0, .inl ((-1)), .inl 0, .inr (.inr 47)] σ4 _
      rw [show σ4 o 0 = 3 from f4]
      refine jw_W_ic rfl (by unfold jw_rg; omega) (by unfold jw_rg; omega) (fun hc2 => ?_) (fun hc2 => ?_)
      · exact absurd hc2 (show ¬ ((0 : Int) ≥ 3) by omega)
      · clear hc2
        refine jw_W_n 2 (i' := 50) (ls' := [some (.inr (.inr 47)), some (.inr (.inr o)), some (.inl t), some (.inl 0)]) (st' := [.inl 1, .inl ((-1)), .inl 0, .inr (.inr 47)]) rfl ?_
        refine jw_W_call (as := [.inr (.inr 47), .inl 0, .inl ((-1)), .inl 1]) (rest := []) rfl rfl rfl rfl (Nat.le_of_ble_eq_true rfl) (.inr rfl) (jx_boundAxis (by unfold jw_rg; omega) (by omega) (by omega)) (by omega) ?_ rfl
        rintro r1 σ1 ⟨rfl, hs⟩
        rw [hs]
        have H5 := jx_bs_s (jx_xr 0 ((-1)) 1) H4
        have f5 : (jx_bo σ4 (jx_xr 0 ((-1)) 1)) o 0 = 3 := (congrFun (jx_fb_o hp H5.1 o (by omega) (by omega)) 0).trans hq4
        have hn5 := H5.2.1
        simp only [List.length_append, List.length_cons, List.length_nil] at hn5
        show jw_W (js_S n) _ md_100 51 [some (.inr (.inr 47)), some (.inr (.inr o)), some (.inl t), some (.inl 0)] [] ((jx_bo σ4 (jx_xr 0 ((-1)) 1))) _
        refine jw_W_n 2 (i' := 53) (ls' := [some (.inr (.inr 47)), some (.inr (.inr o)), some (.inl t), some (.inl 0)]) (st' := [.inr (.inr o), .inl 0]) rfl ?_
        refine jw_W_gf rfl hp.2.1 rfl ?_
        show jw_W (js_S n) _ md_100 54 [some (.inr (.inr 47)), some (.inr (.inr o)), some (.inl t), some (.inl 0)] [.inl ((jx_bo σ4 (jx_xr 0 ((-1)) 1)) o 0), .inl 0] ((jx_bo σ4 (jx_xr 0 ((-1)) 1))) _
        rw [show (jx_bo σ4 (jx_xr 0 ((-1)) 1)) o 0 = 3 from f5]
        refine jw_W_ic rfl (by unfold jw_rg; omega) (by unfold jw_rg; omega) (fun hc3 => ?_) (fun hc3 => ?_)
        · exact absurd hc3 (show ¬ ((0 : Int) ≥ 3) by omega)
        · clear hc3
          refine jw_W_n 4 (i' := 59) (ls' := [some (.inr (.inr 47)), some (.inr (.inr o)), some (.inl t), some (.inl 0)]) (st' := [.inl 1, .inl 1, .inl 0, .inr (.inr 47)]) rfl ?_
          refine jw_W_call (as := [.inr (.inr 47), .inl 0, .inl 1, .inl 1]) (rest := []) rfl rfl rfl rfl (Nat.le_of_ble_eq_true rfl) (.inr rfl) (jx_boundAxis (by unfold jw_rg; omega) (by omega) (by omega)) (by omega) ?_ rfl
          rintro r1 σ1 ⟨rfl, hs⟩
          rw [hs]
          have H6 := jx_bs_s (jx_xr 0 1 1) H5
          have f6 : (jx_bo (jx_bo σ4 (jx_xr 0 ((-1)) 1)) (jx_xr 0 1 1)) o 0 = 3 := (congrFun (jx_fb_o hp H6.1 o (by omega) (by omega)) 0).trans hq4
          have hn6 := H6.2.1
          simp only [List.length_append, List.length_cons, List.length_nil] at hn6
          show jw_W (js_S n) _ md_100 60 [some (.inr (.inr 47)), some (.inr (.inr o)), some (.inl t), some (.inl 0)] [] ((jx_bo (jx_bo σ4 (jx_xr 0 ((-1)) 1)) (jx_xr 0 1 1))) _
          refine jw_W_n 4 (i' := 39) (ls' := [some (.inr (.inr 47)), some (.inr (.inr o)), some (.inl t), some (.inl 1)]) (st' := [.inl 3, .inl 1]) rfl ?_
          refine jw_W_ic rfl (by unfold jw_rg; omega) (by unfold jw_rg; omega) (fun hc4 => ?_) (fun hc4 => ?_)
          · exact absurd hc4 (show ¬ ((1 : Int) ≥ 3) by omega)
          · clear hc4
            refine jw_W_n 5 (i' := 45) (ls' := [some (.inr (.inr 47)), some (.inr (.inr o)), some (.inl t), some (.inl 1)]) (st' := [.inr (.inr o), .inl 1, .inl ((-1)), .inl 1, .inr (.inr 47)]) rfl ?_
            refine jw_W_gf rfl hp.2.1 rfl ?_
            show jw_W (js_S n) _ md_100 46 [some (.inr (.inr 47)), some (.inr (.inr o)), some (.inl t), some (.inl 1)] [.inl ((jx_bo (jx_bo σ4 (jx_xr 0 ((-1)) 1)) (jx_xr 0 1 1)) o 0), .inl 1, .inl ((-1)), .inl 1, .inr (.inr 47)] ((jx_bo (jx_bo σ4 (jx_xr 0 ((-1)) 1)) (jx_xr 0 1 1))) _
            rw [show (jx_bo (jx_bo σ4 (jx_xr 0 ((-1)) 1)) (jx_xr 0 1 1)) o 0 = 3 from f6]
            refine jw_W_ic rfl (by unfold jw_rg; omega) (by unfold jw_rg; omega) (fun hc5 => ?_) (fun hc5 => ?_)
            · exact absurd hc5 (show ¬ ((1 : Int) ≥ 3) by omega)
            · clear hc5
              refine jw_W_n 2 (i' := 50) (ls' := [some (.inr (.inr 47)), some (.inr (.inr o)), some (.inl t), some (.inl 1)]) (st' := [.inl 1, .inl ((-1)), .inl 1, .inr (.inr 47)]) rfl ?_
              refine jw_W_call (as := [.inr (.inr 47), .inl 1, .inl ((-1)), .inl 1]) (rest := []) rfl rfl rfl rfl (Nat.le_of_ble_eq_true rfl) (.inr rfl) (jx_boundAxis (by unfold jw_rg; omega) (by omega) (by omega)) (by omega) ?_ rfl
              rintro r1 σ1 ⟨rfl, hs⟩
              rw [hs]
              have H7 := jx_bs_s (jx_xr 1 ((-1)) 1) H6
              have f7 : (jx_bo (jx_bo (jx_bo σ4 (jx_xr 0 ((-1)) 1)) (jx_xr 0 1 1)) (jx_xr 1 ((-1)) 1)) o 0 = 3 := (congrFun (jx_fb_o hp H7.1 o (by omega) (by omega)) 0).trans hq4
              have hn7 := H7.2.1
              simp only [List.length_append, List.length_cons, List.length_nil] at hn7
              show jw_W (js_S n) _ md_100 51 [some (.inr (.inr 47)), some (.inr (.inr o)), some (.inl t), some (.inl 1)] [] ((jx_bo (jx_bo (jx_bo σ4 (jx_xr 0 ((-1)) 1)) (jx_xr 0 1 1)) (jx_xr 1 ((-1)) 1))) _
              refine jw_W_n 2 (i' := 53) (ls' := [some (.inr (.inr 47)), some (.inr (.inr o)), some (.inl t), some (.inl 1)]) (st' := [.inr (.inr o), .inl 1]) rfl ?_
              refine jw_W_gf rfl hp.2.1 rfl ?_
              show jw_W (js_S n) _ md_100 54 [some (.inr (.inr 47)), some (.inr (.inr o)), some (.inl t), some (.inl 1)] [.inl ((jx_bo (jx_bo (jx_bo σ4 (jx_xr 0 ((-1)) 1)) (jx_xr 0 1 1)) (jx_xr 1 ((-1)) 1)) o 0), .inl 1] ((jx_bo (jx_bo (jx_bo σ4 (jx_xr 0 ((-1)) 1)) (jx_xr 0 1 1)) (jx_xr 1 ((-1)) 1))) _
              rw [show (jx_bo (jx_bo (jx_bo σ4 (jx_xr 0 ((-1)) 1)) (jx_xr 0 1 1)) (jx_xr 1 ((-1)) 1)) o 0 = 3 from f7]
              refine jw_W_ic rfl (by unfold jw_rg; omega) (by unfold jw_rg; omega) (fun hc6 => ?_) (fun hc6 => ?_)
              · exact absurd hc6 (show ¬ ((1 : Int) ≥ 3) by omega)
              · clear hc6
                refine jw_W_n 4 (i' := 59) (ls' := [some (.inr (.inr 47)), some (.inr (.inr o)), some (.inl t), some (.inl 1)]) (st' := [.inl 1, .inl 1, .inl 1, .inr (.inr 47)]) rfl ?_
                refine jw_W_call (as := [.inr (.inr 47), .inl 1, .inl 1, .inl 1]) (rest := []) rfl rfl rfl rfl (Nat.le_of_ble_eq_true rfl) (.inr rfl) (jx_boundAxis (by unfold jw_rg; omega) (by omega) (by omega)) (by omega) ?_ rfl
                rintro r1 σ1 ⟨rfl, hs⟩
                rw [hs]
                have H8 := jx_bs_s (jx_xr 1 1 1) H7
                have f8 : (jx_bo (jx_bo (jx_bo (jx_bo σ4 (jx_xr 0 ((-1)) 1)) (jx_xr 0 1 1)) (jx_xr 1 ((-1)) 1)) (jx_xr 1 1 1)) o 0 = 3 := (congrFun (jx_fb_o hp H8.1 o (by omega) (by omega)) 0).trans hq4
                have hn8 := H8.2.1
                simp only [List.length_append, List.length_cons, List.length_nil] at hn8
                show jw_W (js_S n) _ md_100 60 [some (.inr (.inr 47)), some (.inr (.inr o)), some (.inl t), some (.inl 1)] [] ((jx_bo (jx_bo (jx_bo (jx_bo σ4 (jx_xr 0 ((-1)) 1)) (jx_xr 0 1 1)) (jx_xr 1 ((-1)) 1)) (jx_xr 1 1 1))) _
                refine jw_W_n 4 (i' := 39) (ls' := [some (.inr (.inr 47)), some (.inr (.inr o)), some (.inl t), some (.inl 2)]) (st' := [.inl 3, .inl 2]) rfl ?_
                refine jw_W_ic rfl (by unfold jw_rg; omega) (by unfold jw_rg; omega) (fun hc7 => ?_) (fun hc7 => ?_)
                · exact absurd hc7 (show ¬ ((2 : Int) ≥ 3) by omega)
                · clear hc7
                  refine jw_W_n 5 (i' := 45) (ls' := [some (.inr (.inr 47)), some (.inr (.inr o)), some (.inl t), some (.inl 2)]) (st' := [.inr (.inr o), .inl 2, .inl ((-1)), .inl 2, .inr (.inr 47)]) rfl ?_
                  refine jw_W_gf rfl hp.2.1 rfl ?_
                  show jw_W (js_S n) _ md_100 46 [some (.inr (.inr 47)), some (.inr (.inr o)), some (.inl t), some (.inl 2)] [.inl ((jx_bo (jx_bo (jx_bo (jx_bo σ4 (jx_xr 0 ((-1)) 1)) (jx_xr 0 1 1)) (jx_xr 1 ((-1)) 1)) (jx_xr 1 1 1)) o 0), .inl 2, .inl ((-1)), .inl 2, .inr (.inr 47)] ((jx_bo (jx_bo (jx_bo (jx_bo σ4 (jx_xr 0 ((-1)) 1)) (jx_xr 0 1 1)) (jx_xr 1 ((-1)) 1)) (jx_xr 1 1 1))) _
                  rw [show (jx_bo (jx_bo (jx_bo (jx_bo σ4 (jx_xr 0 ((-1)) 1)) (jx_xr 0 1 1)) (jx_xr 1 ((-1)) 1)) (jx_xr 1 1 1)) o 0 = 3 from f8]
                  refine jw_W_ic rfl (by unfold jw_rg; omega) (by unfold jw_rg; omega) (fun hc8 => ?_) (fun hc8 => ?_)
                  · exact absurd hc8 (show ¬ ((2 : Int) ≥ 3) by omega)
                  · clear hc8
                    refine jw_W_n 2 (i' := 50) (ls' := [some (.inr (.inr 47)), some (.inr (.inr o)), some (.inl t), some (.inl 2)]) (st' := [.inl 1, .inl ((-1)), .inl 2, .inr (.inr 47)]) rfl ?_
                    refine jw_W_call (as := [.inr (.inr 47), .inl 2, .inl ((-1)), .inl 1]) (rest := []) rfl rfl rfl rfl (Nat.le_of_ble_eq_true rfl) (.inr rfl) (jx_boundAxis (by unfold jw_rg; omega) (by omega) (by omega)) (by omega) ?_ rfl
                    rintro r1 σ1 ⟨rfl, hs⟩
                    rw [hs]
                    have H9 := jx_bs_s (jx_xr 2 ((-1)) 1) H8
                    have f9 : (jx_bo (jx_bo (jx_bo (jx_bo (jx_bo σ4 (jx_xr 0 ((-1)) 1)) (jx_xr 0 1 1)) (jx_xr 1 ((-1)) 1)) (jx_xr 1 1 1)) (jx_xr 2 ((-1)) 1)) o 0 = 3 := (congrFun (jx_fb_o hp H9.1 o (by omega) (by omega)) 0).trans hq4
                    have hn9 := H9.2.1
                    simp only [List.length_append, List.length_cons, List.length_nil] at hn9
                    show jw_W (js_S n) _ md_100 51 [some (.inr (.inr 47)), some (.inr (.inr o)), some (.inl t), some (.inl 2)] [] ((jx_bo (jx_bo (jx_bo (jx_bo (jx_bo σ4 (jx_xr 0 ((-1)) 1)) (jx_xr 0 1 1)) (jx_xr 1 ((-1)) 1)) (jx_xr 1 1 1)) (jx_xr 2 ((-1)) 1))) _
                    refine jw_W_n 2 (i' := 53) (ls' := [some (.inr (.inr 47)), some (.inr (.inr o)), some (.inl t), some (.inl 2)]) (st' := [.inr (.inr o), .inl 2]) rfl ?_
                    refine jw_W_gf rfl hp.2.1 rfl ?_
                    show jw_W (js_S n) _ md_100 54 [some (.inr (.inr 47)), some (.inr (.inr o)), some (.inl t), some (.inl 2)] [.inl ((jx_bo (jx_bo (jx_bo (jx_bo (jx_bo σ4 (jx_xr 0 ((-1)) 1)) (jx_xr 0 1 1)) (jx_xr 1 ((-1)) 1)) (jx_xr 1 1 1)) (jx_xr 2 ((-1)) 1)) o 0), .inl 2] ((jx_bo (jx_bo (jx_bo (jx_bo (jx_bo σ4 (jx_xr 0 ((-1)) 1)) (jx_xr 0 1 1)) (jx_xr 1 ((-1)) 1)) (jx_xr 1 1 1)) (jx_xr 2 ((-1)) 1))) _
                    rw [show (jx_bo (jx_bo (jx_bo (jx_bo (jx_bo σ4 (jx_xr 0 ((-1)) 1)) (jx_xr 0 1 1)) (jx_xr 1 ((-1)) 1)) (jx_xr 1 1 1)) (jx_xr 2 ((-1)) 1)) o 0 = 3 from f9]
                    refine jw_W_ic rfl (by unfold jw_rg; omega) (by unfold jw_rg; omega) (fun hc9 => ?_) (fun hc9 => ?_)
                    · exact absurd hc9 (show ¬ ((2 : Int) ≥ 3) by omega)
                    · clear hc9
                      refine jw_W_n 4 (i' := 59) (ls' := [some (.inr (.inr 47)), some (.inr (.inr o)), some (.inl t), some (.inl 2)]) (st' := [.inl 1, .inl 1, .inl 2, .inr (.inr 47)]) rfl ?_
                      refine jw_W_call (as := [.inr (.inr 47), .inl 2, .inl 1, .inl 1]) (rest := []) rfl rfl rfl rfl (Nat.le_of_ble_eq_true rfl) (.inr rfl) (jx_boundAxis (by unfold jw_rg; omega) (by omega) (by omega)) (by omega) ?_ rfl
                      rintro r1 σ1 ⟨rfl, hs⟩
                      rw [hs]
                      have H10 := jx_bs_s (jx_xr 2 1 1) H9
                      have f10 : (jx_bo (jx_bo (jx_bo (jx_bo (jx_bo (jx_bo σ4 (jx_xr 0 ((-1)) 1)) (jx_xr 0 1 1)) (jx_xr 1 ((-1)) 1)) (jx_xr 1 1 1)) (jx_xr 2 ((-1)) 1)) (jx_xr 2 1 1)) o 0 = 3 := (congrFun (jx_fb_o hp H10.1 o (by omega) (by omega)) 0).trans hq4
                      have hn10 := H10.2.1
                      simp only [List.length_append, List.length_cons, List.length_nil] at hn10
                      show jw_W (js_S n) _ md_100 60 [some (.inr (.inr 47)), some (.inr (.inr o)), some (.inl t), some (.inl 2)] [] ((jx_bo (jx_bo (jx_bo (jx_bo (jx_bo (jx_bo σ4 (jx_xr 0 ((-1)) 1)) (jx_xr 0 1 1)) (jx_xr 1 ((-1)) 1)) (jx_xr 1 1 1)) (jx_xr 2 ((-1)) 1)) (jx_xr 2 1 1))) _
                      refine jw_W_n 4 (i' := 39) (ls' := [some (.inr (.inr 47)), some (.inr (.inr o)), some (.inl t), some (.inl 3)]) (st' := [.inl 3, .inl 3]) rfl ?_
                      refine jw_W_ic rfl (by unfold jw_rg; omega) (by unfold jw_rg; omega) (fun hc10 => ?_) (fun hc10 => ?_)
                      · clear hc10
                        refine jw_W_re rfl ?_
                        refine ⟨rfl, ?_⟩
                        rw [show jx_wx (σ o 0) = jx_wx 3 from by rw [hq4]]
                        simp only [List.append_assoc, List.cons_append, List.nil_append] at H10
                        exact H10
                      · exact absurd hc10 (show ¬ ¬ ((3 : Int) ≥ 3) by omega)

/-! ===== the class: findRisen ===== -/
/-- nothing but space's own is written -/
def jx_fq (σ σ' : jw_H) : Prop := ∀ o, (o < 47 ∨ 56 < o) → σ' o = σ o
theorem jx_fq_rf (σ : jw_H) : jx_fq σ σ := fun _ _ => rfl
theorem jx_fq_tr {σ σ1 σ2 : jw_H} (a : jx_fq σ σ1) (b : jx_fq σ1 σ2) : jx_fq σ σ2 := fun o h => (b o h).trans (a o h)
theorem jx_fq_bs {σ σ' : jw_H} {L : List ge_R} (h : jx_bs σ L σ') : jx_fq σ σ' := fun o ho => h.1.1 o (by omega) (by omega)
theorem jx_fq_fd {σ σ' : jw_H} (h : jx_fd σ σ') : jx_fq σ σ' := by
  obtain ⟨P, -, -, h, -⟩ := h
  exact fun o ho => h o (by omega)
/-- bounds filled, all points found -/
theorem jx_find_L {n : Nat} {σ0 σ : jw_H} {L : List ge_R} (H : jx_bs σ0 L σ) (hl : L.length ≤ 24) (hb : ∀ r ∈ L, jx_rb r) (hbd : ∀ v, ge_V L v → ge_g v = 1 → jx_bd v) : jw_T (js_S n) 4 101 [.inr (.inr 47)] σ (fun r σ' => r = none ∧ jx_fq σ0 σ' ∧ ∃ P, jx_pl σ' 48 P ∧ jx_so P ∧ ∀ v, v ∈ P ↔ ge_V L v ∧ ge_g v = 1) := by
  have e := jx_bs_RL H
  have hn := H.2.1
  refine jw_T_mono (jx_find (n := n) (by omega) (fun i i0 i1 => ?_) (by rw [e]; exact hbd)) (by omega) ?_
  · refine hb _ ?_
    rw [← e]
    exact jx_RL_mem.mpr ⟨i, i0, i1, rfl⟩
  · rintro r σ' ⟨h1, h2⟩
    refine ⟨h1, jx_fq_tr (jx_fq_bs H) (jx_fq_fd h2), ?_⟩
    obtain ⟨P, p1, p2, -, p3⟩ := h2
    rw [e] at p3
    exact ⟨P, p1, p2, p3⟩
theorem jx_pl_pb {σ : jw_H} {p : Nat} {P : List ge_R} (h : jx_pl σ p P) (hl : P.length ≤ 64) (hb : ∀ v ∈ P, jx_bd v) : jx_pb σ p := by
  have h1 := h.1
  refine ⟨by omega, fun i i0 i1 => ?_⟩
  have hg := List.getElem?_eq_getElem (l := P) (i := i.toNat) (by omega)
  have e := h.2 _ _ hg
  rw [Int.toNat_of_nonneg i0] at e
  rw [e]
  exact hb _ (List.getElem_mem _)
theorem jx_pl_ex {σ : jw_H} {p : Nat} {P : List ge_R} (h : jx_pl σ p P) {C : ge_R → Prop} : (∃ i, 0 ≤ i ∧ i < σ p 0 ∧ C (jx_pt σ p i)) ↔ ∃ v ∈ P, C v := by
  have h1 := h.1
  constructor
  · rintro ⟨i, i0, i1, hc⟩
    have hg := List.getElem?_eq_getElem (l := P) (i := i.toNat) (by omega)
    have e := h.2 _ _ hg
    rw [Int.toNat_of_nonneg i0] at e
    rw [e] at hc
    exact ⟨_, List.getElem_mem _, hc⟩
  · rintro ⟨v, hv, hc⟩
    obtain ⟨i, hi⟩ := List.getElem?_of_mem hv
    have hl := (List.getElem?_eq_some_iff.mp hi).1
    exact ⟨(i : Int), by omega, by omega, by rw [h.2 i v hi]; exact hc⟩
theorem jx_V_len {L P : List ge_R} (hs : jx_so P) (hl : L.length ≤ 24) (h : ∀ v, v ∈ P ↔ ge_V L v ∧ ge_g v = 1) : P.length ≤ 48 := by
  have := ge_count (R := L) (Ps := P) (fun u hu => ((h u).mp hu).1) (hs.imp (fun hh => ge_lt_ne hh))
  omega
/-- so far: which wishes are above 0 at a point -/
def jx_mi (σ : jw_H) (o : Nat) (p t m : Int) : Prop := (0 ≤ m ∧ m ≤ 7) ∧ ∀ w : Nat, jb_in m w ↔ (w : Int) < σ o 1 ∧ ∃ i, 0 ≤ i ∧ i < σ 48 0 ∧ (i < p ∨ (i = p ∧ (w : Int) < t)) ∧ 0 < ge_f (jm_W (jx_M σ o) (w : Int)) (jx_pt σ 48 i)
theorem jx_mi_0 (σ : jw_H) (o : Nat) : jx_mi σ o 0 0 0 := by
  refine ⟨by omega, fun w => ⟨fun h => by simp [jb_in] at h, ?_⟩⟩
  rintro ⟨-, i, h1, -, h2, -⟩
  omega
theorem jx_mi_row {σ : jw_H} {o : Nat} {p m : Int} (h : jx_mi σ o p (σ o 1) m) : jx_mi σ o (p + 1) 0 m := by
  refine ⟨h.1, fun w => (h.2 w).trans ⟨?_, ?_⟩⟩
  · rintro ⟨h0, i, h1, h2, h3, h4⟩
    exact ⟨h0, i, h1, h2, by omega, h4⟩
  · rintro ⟨h0, i, h1, h2, h3, h4⟩
    exact ⟨h0, i, h1, h2, by omega, h4⟩
theorem jx_mi_no {σ : jw_H} {o : Nat} {p t m : Int} (h : jx_mi σ o p t m) (hn : ¬ 0 < ge_f (jm_W (jx_M σ o) t) (jx_pt σ 48 p)) : jx_mi σ o p (t + 1) m := by
  refine ⟨h.1, fun w => (h.2 w).trans ⟨?_, ?_⟩⟩
  · rintro ⟨h0, i, h1, h2, h3, h4⟩
    exact ⟨h0, i, h1, h2, by omega, h4⟩
  · rintro ⟨h0, i, h1, h2, h3, h4⟩
    by_cases e : i = p ∧ (w : Int) = t
    · rw [e.1, e.2] at h4
      exact absurd h4 hn
    · exact ⟨h0, i, h1, h2, by omega, h4⟩
theorem jx_or7 {m t : Int} (hm : 0 ≤ m ∧ m ≤ 7) (t0 : 0 ≤ t) (t1 : t < 3) : 0 ≤ jw_or m (jw_shl 1 t) ∧ jw_or m (jw_shl 1 t) ≤ 7 := by
  have e : jw_shl 1 t = if t = 0 then 1 else if t = 1 then 2 else if t = 2 then 4 else 8 := jx_shl1 t t0 (by omega)
  have h1 : 0 ≤ jw_shl 1 t ∧ jw_shl 1 t ≤ 7 := by
    rw [e]
    repeat' split
    all_goals omega
  rw [jb_or hm.1 (by omega) h1.1 (by omega)]
  have : m.toNat ||| (jw_shl 1 t).toNat < 2 ^ 3 := Nat.or_lt_two_pow (by omega) (by omega)
  omega
theorem jx_mi_yes {σ : jw_H} {o : Nat} {p t m : Int} (h : jx_mi σ o p t m) (p0 : 0 ≤ p) (p1 : p < σ 48 0) (t0 : 0 ≤ t) (t1 : t < σ o 1) (w3 : σ o 1 ≤ 3) (hy : 0 < ge_f (jm_W (jx_M σ o) t) (jx_pt σ 48 p)) : jx_mi σ o p (t + 1) (jw_or m (jw_shl 1 t)) := by
  refine ⟨jx_or7 h.1 t0 (by omega), fun w => ?_⟩
  obtain ⟨h1, h2⟩ := jm_one_in t0 (show t < 20 by omega)
  rw [jm_or_in (by have := h.1; omega) h1, h2, h.2 w]
  constructor
  · rintro (⟨h0, i, h1, h2, h3, h4⟩ | e)
    · exact ⟨h0, i, h1, h2, by omega, h4⟩
    · exact ⟨by omega, p, p0, p1, by omega, by rw [e]; exact hy⟩
  · rintro ⟨h0, i, h1, h2, h3, h4⟩
    by_cases e : (w : Int) = t
    · exact .inr e
    · exact .inl ⟨h0, i, h1, h2, by omega, h4⟩
theorem jx_ris_w {n : Nat} {σ : jw_H} {o : Nat} {t0 i : Int} {D : Nat} {Q : Option jw_V → jw_H → Prop} (hD : 1 ≤ D) (hfo : (σ 57 6).toNat = o) (hp : jx_po n o) (hw : 0 ≤ σ o 1 ∧ σ o 1 ≤ 3) (hG : ∀ w, 0 ≤ w → w < σ o 1 → jx_Gb (jm_W (jx_M σ o) w)) (hb : jx_pb σ 48) (i0 : 0 ≤ i) (i1 : i < σ 48 0) (hQ : ∀ m, jx_mi σ o i (σ o 1) m → jw_W (js_S n) D md_3 50 [some (.inr (.inr 57)), some (.inl t0), some (.inl m), some (.inl i), some (.inl (σ o 1))] [] σ Q) : ∀ (f : Nat) {w m : Int}, 0 ≤ w → w + f = σ o 1 → jx_mi σ o i w m → jw_W (js_S n) D md_3 25 [some (.inr (.inr 57)), some (.inl t0), some (.inl m), some (.inl i), some (.inl w)] [] σ Q
  | f, w, m, w0, hk, H => by
    have ih : ∀ {m' : Int}, w < σ o 1 → jx_mi σ o i (w + 1) m' → jw_W (js_S n) D md_3 25 [some (.inr (.inr 57)), some (.inl t0), some (.inl m'), some (.inl i), some (.inl (w + 1))] [] σ Q := by
      intro m' h1 h2
      match f, hk with
      | 0, hk => omega
      | f + 1, hk => exact jx_ris_w hD hfo hp hw hG hb i0 i1 hQ f (by omega) (by omega) h2
    have ho := hp.1
    have hbm := hb.1
    refine jw_W_n 2 (i' := 27) (ls' := [some (.inr (.inr 57)), some (.inl t0), some (.inl m), some (.inl i), some (.inl w)]) (st' := [.inr (.inr 57), .inl w]) rfl ?_
    refine jw_W_gf rfl rfl rfl ?_
    show jw_W (js_S n) _ md_3 28 [some (.inr (.inr 57)), some (.inl t0), some (.inl m), some (.inl i), some (.inl w)] [.inr (.inr ((σ 57 6).toNat)), .inl w] σ _
    rw [hfo]
    refine jw_W_gf rfl hp.2.1 rfl ?_
    show jw_W (js_S n) _ md_3 29 [some (.inr (.inr 57)), some (.inl t0), some (.inl m), some (.inl i), some (.inl w)] [.inl (σ o 1), .inl w] σ _
    refine jw_W_ic rfl (by unfold jw_rg; omega) (by unfold jw_rg; omega) (fun hc1 => ?_) (fun hc1 => ?_)
    · have hc1 : w ≥ (σ o 1) := hc1
      have hkl : w = σ o 1 := by omega
      subst hkl
      exact hQ _ H
    · have hc1 : ¬ (w ≥ (σ o 1)) := hc1
      refine jw_W_n 1 (i' := 31) (ls' := [some (.inr (.inr 57)), some (.inl t0), some (.inl m), some (.inl i), some (.inl w)]) (st' := [.inr (.inr 57)]) rfl ?_
      refine jw_W_gf rfl rfl rfl ?_
      show jw_W (js_S n) _ md_3 32 [some (.inr (.inr 57)), some (.inl t0), some (.inl m), some (.inl i), some (.inl w)] [.inr (.inr 47)] σ _
      refine jw_W_gf rfl rfl rfl ?_
      show jw_W (js_S n) _ md_3 33 [some (.inr (.inr 57)), some (.inl t0), some (.inl m), some (.inl i), some (.inl w)] [.inr (.inr 48)] σ _
      refine jw_W_n 2 (i' := 35) (ls' := [some (.inr (.inr 57)), some (.inl t0), some (.inl m), some (.inl i), some (.inl w)]) (st' := [.inr (.inr 57), .inl i, .inr (.inr 48)]) rfl ?_
      refine jw_W_gf rfl rfl rfl ?_
      show jw_W (js_S n) _ md_3 36 [some (.inr (.inr 57)), some (.inl t0), some (.inl m), some (.inl i), some (.inl w)] [.inr (.inr ((σ 57 6).toNat)), .inl i, .inr (.inr 48)] σ _
      rw [hfo]
      refine jw_W_gf rfl hp.2.1 rfl ?_
      show jw_W (js_S n) _ md_3 37 [some (.inr (.inr 57)), some (.inl t0), some (.inl m), some (.inl i), some (.inl w)] [.inr (.inr (o + 1)), .inl i, .inr (.inr 48)] σ _
      refine jw_W_n 3 (i' := 40) (ls' := [some (.inr (.inr 57)), some (.inl t0), some (.inl m), some (.inl i), some (.inl w)]) (st' := [.inl (3 * w), .inr (.inr (o + 1)), .inl i, .inr (.inr 48)]) rfl ?_
      refine jw_W_call (as := [.inr (.inr 48), .inl i, .inr (.inr (o + 1)), .inl (3 * w)]) (rest := []) rfl rfl rfl rfl (Nat.le_of_ble_eq_true rfl) (.inr rfl) (jx_value (jx_pp_48 n) hp.2.2.1 (by omega) (by omega) (by omega) i0 (by omega)) (by omega) ?_ rfl
      rintro r1 σ1 ⟨rfl, hs⟩
      rw [hs, show jx_G σ (o + 1) (3 * w) = jm_W (jx_M σ o) w from rfl]
      have hb2 := jx_f_bd (hG w w0 (by omega)) (hb.2 i i0 (by omega))
      show jw_W (js_S n) _ md_3 41 [some (.inr (.inr 57)), some (.inl t0), some (.inl m), some (.inl i), some (.inl w)] [.inl (ge_f (jm_W (jx_M σ o) w) (jx_pt σ 48 i))] σ _
      refine jw_W_if rfl (by unfold jw_rg; omega) (fun hc2 => ?_) (fun hc2 => ?_)
      · have hc2 : (ge_f (jm_W (jx_M σ o) w) (jx_pt σ 48 i)) ≤ 0 := hc2
        refine jw_W_n 2 (i' := 25) (ls' := [some (.inr (.inr 57)), some (.inl t0), some (.inl m), some (.inl i), some (.inl (w + 1))]) (st' := []) rfl ?_
        exact ih (by omega) (jx_mi_no H (by omega))
      · have hc2 : ¬ ((ge_f (jm_W (jx_M σ o) w) (jx_pt σ 48 i)) ≤ 0) := hc2
        refine jw_W_n 8 (i' := 25) (ls' := [some (.inr (.inr 57)), some (.inl t0), some (.inl (jw_or m (jw_shl 1 w))), some (.inl i), some (.inl (w + 1))]) (st' := []) rfl ?_
        exact ih (by omega) (jx_mi_yes H i0 i1 w0 (by omega) (by omega) (by omega))
theorem jx_ris_i {n : Nat} {σ : jw_H} {o : Nat} {t0 : Int} {D : Nat} {Q : Option jw_V → jw_H → Prop} (hD : 1 ≤ D) (hfo : (σ 57 6).toNat = o) (hp : jx_po n o) (hw : 0 ≤ σ o 1 ∧ σ o 1 ≤ 3) (hG : ∀ w, 0 ≤ w → w < σ o 1 → jx_Gb (jm_W (jx_M σ o) w)) (hb : jx_pb σ 48) (hQ : ∀ m a, jx_mi σ o (σ 48 0) 0 m → jw_W (js_S n) D md_3 52 [some (.inr (.inr 57)), some (.inl t0), some (.inl m), some (.inl (σ 48 0)), a] [] σ Q) : ∀ (f : Nat) {i m : Int} {a4 : Option jw_V}, 0 ≤ i → i + f = σ 48 0 → jx_mi σ o i 0 m → jw_W (js_S n) D md_3 17 [some (.inr (.inr 57)), some (.inl t0), some (.inl m), some (.inl i), a4] [] σ Q
  | f, i, m, a4, i0, hk, H => by
    have ih : ∀ {m' : Int} {a4 : Option jw_V}, i < σ 48 0 → jx_mi σ o (i + 1) 0 m' → jw_W (js_S n) D md_3 17 [some (.inr (.inr 57)), some (.inl t0), some (.inl m'), some (.inl (i + 1)), a4] [] σ Q := by
      intro m' a4 h1 h2
      match f, hk with
      | 0, hk => omega
      | f + 1, hk => exact jx_ris_i hD hfo hp hw hG hb hQ f (by omega) (by omega) h2
    have hbm := hb.1
    refine jw_W_n 2 (i' := 19) (ls' := [some (.inr (.inr 57)), some (.inl t0), some (.inl m), some (.inl i), a4]) (st' := [.inr (.inr 57), .inl i]) rfl ?_
    refine jw_W_gf rfl rfl rfl ?_
    show jw_W (js_S n) _ md_3 20 [some (.inr (.inr 57)), some (.inl t0), some (.inl m), some (.inl i), a4] [.inr (.inr 47), .inl i] σ _
    refine jw_W_gf rfl rfl rfl ?_
    show jw_W (js_S n) _ md_3 21 [some (.inr (.inr 57)), some (.inl t0), some (.inl m), some (.inl i), a4] [.inr (.inr 48), .inl i] σ _
    refine jw_W_gf rfl rfl rfl ?_
    show jw_W (js_S n) _ md_3 22 [some (.inr (.inr 57)), some (.inl t0), some (.inl m), some (.inl i), a4] [.inl (σ 48 0), .inl i] σ _
    refine jw_W_ic rfl (by unfold jw_rg; omega) (by unfold jw_rg; omega) (fun hc1 => ?_) (fun hc1 => ?_)
    · have hc1 : i ≥ (σ 48 0) := hc1
      have hkl : i = σ 48 0 := by omega
      subst hkl
      exact hQ _ _ H
    · have hc1 : ¬ (i ≥ (σ 48 0)) := hc1
      refine jw_W_n 2 (i' := 25) (ls' := [some (.inr (.inr 57)), some (.inl t0), some (.inl m), some (.inl i), some (.inl 0)]) (st' := []) rfl ?_
      refine jx_ris_w hD hfo hp hw hG hb i0 (by omega) (fun m4 H4 => ?_) (σ o 1).toNat (w := 0) (by omega) (by omega) H
      refine jw_W_n 2 (i' := 17) (ls' := [some (.inr (.inr 57)), some (.inl t0), some (.inl m4), some (.inl (i + 1)), some (.inl (σ o 1))]) (st' := []) rfl ?_
      exact ih (by omega) (jx_mi_row H4)
/-- what findRisen answers: of the rows of ways -/
def jx_ra (μ : jw_H) (t m : Int) : Prop := (0 ≤ m ∧ m ≤ 7) ∧ ∀ w : Nat, jb_in m w ↔ (w : Int) < μ 103 4 ∧ ∃ v, ge_V (jx_WY μ t) v ∧ 0 < ge_f (jm_W μ (w : Int)) v
theorem jx_ra_rs {μ : jw_H} {p : ge_R} {t m : Int} (hP : jm_Pb μ) (hp : ge_F (jm_R μ) p) (ht : jm_tau (jm_bA μ) p t) (h : jx_ra μ t m) : jx_rs μ p m := by
  refine ⟨h.1, fun w => (h.2 w).trans ⟨?_, ?_⟩⟩
  · rintro ⟨h1, h2⟩
    exact ⟨h1, (jx_up1_WY hP hp ht (by omega) h1).mpr h2⟩
  · rintro ⟨h1, h2⟩
    exact ⟨h1, (jx_up1_WY hP hp ht (by omega) h1).mp h2⟩
theorem jx_ris_end {σ0 σ : jw_H} {o : Nat} {t m : Int} {P : List ge_R} (hpq : jx_pq (jx_M σ o) (jx_M σ0 o)) (hl : jx_pl σ 48 P) (hP : ∀ v, v ∈ P ↔ ge_V (jx_WY (jx_M σ0 o) t) v ∧ ge_g v = 1) (h : jx_mi σ o (σ 48 0) 0 m) : jx_ra (jx_M σ0 o) t m := by
  have e1 : σ o 1 = σ0 o 1 := hpq.1.2.1
  refine ⟨h.1, fun w => (h.2 w).trans ?_⟩
  rw [e1]
  constructor
  · rintro ⟨h0, i, h1, h2, -, h4⟩
    rw [jx_pq_W hpq (by omega) (by rw [jx_M4]; exact h0)] at h4
    obtain ⟨v, hv, h5⟩ := (jx_pl_ex hl (C := fun v => 0 < ge_f (jm_W (jx_M σ0 o) (w : Int)) v)).mp ⟨i, h1, h2, h4⟩
    exact ⟨h0, v, ((hP v).mp hv).1, h5⟩
  · rintro ⟨h0, v, hv, h5⟩
    have h0 : (w : Int) < σ0 o 1 := h0
    obtain ⟨a1, a2, a3⟩ := ge_pp_ok hv.1.1
    have hm : ge_pp v ∈ P := (hP _).mpr ⟨ge_e_V (ge_e_sym a1) hv.1.1 a3 hv, a2⟩
    have h6 : 0 < ge_f (jm_W (jx_M σ0 o) (w : Int)) (ge_pp v) := by
      have e := ge_f_e (jm_W (jx_M σ0 o) (w : Int)) a1
      have h7 := Int.mul_pos h5 a3
      rw [← e] at h7
      exact Int.pos_of_mul_pos_left h7 hv.1.1 |> fun h => h
    obtain ⟨i, i0, i1, h7⟩ := (jx_pl_ex hl (C := fun v => 0 < ge_f (jm_W (jx_M σ0 o) (w : Int)) v)).mpr ⟨_, hm, h6⟩
    refine ⟨h0, i, i0, i1, .inl i1, ?_⟩
    rw [jx_pq_W hpq (by omega) (by rw [jx_M4]; exact h0)]
    exact h7
theorem jx_ra_0 {μ : jw_H} {t : Int} (h : μ 103 4 ≤ 0) : jx_ra μ t 0 := by
  refine ⟨by omega, fun w => ⟨fun hh => by simp [jb_in] at hh, fun hh => by omega⟩⟩
theorem jx_W_Gb {μ : jw_H} {w : Int} (hP : jm_Pb μ) (w0 : 0 ≤ w) (w1 : w < μ 103 4) : jx_Gb (jm_W μ w) := by
  have := jm_W_sm hP w0 w1
  unfold jx_Gb
  omega
theorem jx_findRisen {n : Nat} {σ : jw_H} {o : Nat} {t : Int} (hfo : (σ 57 6).toNat = o) (hp : jx_po n o) (hP : jx_Pb σ o) (ht : 0 ≤ t ∧ t ≤ 1048575) : jw_T (js_S n) 6 3 [.inr (.inr 57), .inl t] σ (fun r σ' => ∃ m, r = some (.inl m) ∧ jx_fq σ σ' ∧ jx_ra (jx_M σ o) t m) := by
  refine jw_T_of (D := 5) (M := mm_3) rfl (Nat.le_of_ble_eq_true rfl) (ls0 := [some (.inr (.inr 57)), some (.inl t), none, none, none]) rfl ?_ (by rintro _ _ ⟨_, rfl, -⟩; rfl)
  have ho := hp.1
  have hM := jx_Pb_M hP
  have hq := hP.1
  have hw := hP.2.1
  have hq2 := hP.2.2.1
  have hl24 : (jx_WY (jx_M σ o) t).length ≤ 24 := by
    unfold jx_WY
    rw [List.length_append, jx_wW_len, jx_M3, jx_M4, jx_M5]
    have h1 := jx_wL_len (jx_M σ o) t (σ o 2 + 2 * σ o 0).toNat
    have h2 : (jx_wx (σ o 0)).length ≤ 6 := by
      unfold jx_wx
      split
      · simp
      · split <;> simp
    omega
  refine jw_W_n 3 (i' := 3) (ls' := [some (.inr (.inr 57)), some (.inl t), some (.inl 0), none, none]) (st' := [.inr (.inr 57)]) rfl ?_
  refine jw_W_gf rfl rfl rfl ?_
  show jw_W (js_S n) _ md_3 4 [some (.inr (.inr 57)), some (.inl t), some (.inl 0), none, none] [.inr (.inr ((σ 57 6).toNat))] σ _
  rw [hfo]
  refine jw_W_gf rfl hp.2.1 rfl ?_
  show jw_W (js_S n) _ md_3 5 [some (.inr (.inr 57)), some (.inl t), some (.inl 0), none, none] [.inl (σ o 1)] σ _
  refine jw_W_if rfl (by unfold jw_rg; omega) (fun hc1 => ?_) (fun hc1 => ?_)
  · have hc1 : (σ o 1) ≤ 0 := hc1
    refine jw_W_n 1 (i' := 53) (ls' := [some (.inr (.inr 57)), some (.inl t), some (.inl 0), none, none]) (st' := [.inl 0]) rfl ?_
    refine jw_W_ir rfl ?_
    exact ⟨0, rfl, jx_fq_rf σ, jx_ra_0 (by rw [jx_M4]; omega)⟩
  · have hc1 : ¬ ((σ o 1) ≤ 0) := hc1
    refine jw_W_n 1 (i' := 7) (ls' := [some (.inr (.inr 57)), some (.inl t), some (.inl 0), none, none]) (st' := [.inr (.inr 57)]) rfl ?_
    refine jw_W_gf rfl rfl rfl ?_
    show jw_W (js_S n) _ md_3 8 [some (.inr (.inr 57)), some (.inl t), some (.inl 0), none, none] [.inr (.inr 47)] σ _
    refine jw_W_n 1 (i' := 9) (ls' := [some (.inr (.inr 57)), some (.inl t), some (.inl 0), none, none]) (st' := [.inr (.inr 57), .inr (.inr 47)]) rfl ?_
    refine jw_W_gf rfl rfl rfl ?_
    show jw_W (js_S n) _ md_3 10 [some (.inr (.inr 57)), some (.inl t), some (.inl 0), none, none] [.inr (.inr ((σ 57 6).toNat)), .inr (.inr 47)] σ _
    rw [hfo]
    refine jw_W_n 1 (i' := 11) (ls' := [some (.inr (.inr 57)), some (.inl t), some (.inl 0), none, none]) (st' := [.inl t, .inr (.inr o), .inr (.inr 47)]) rfl ?_
    refine jw_W_call (as := [.inr (.inr 47), .inr (.inr o), .inl t]) (rest := []) rfl rfl rfl rfl (Nat.le_of_ble_eq_true rfl) (.inr rfl) (jx_fillWays hp hP ht) (by omega) ?_ rfl
    rintro r1 σ1 ⟨rfl, H1⟩
    show jw_W (js_S n) _ md_3 12 [some (.inr (.inr 57)), some (.inl t), some (.inl 0), none, none] [] σ1 _
    refine jw_W_n 1 (i' := 13) (ls' := [some (.inr (.inr 57)), some (.inl t), some (.inl 0), none, none]) (st' := [.inr (.inr 57)]) rfl ?_
    refine jw_W_gf rfl rfl rfl ?_
    show jw_W (js_S n) _ md_3 14 [some (.inr (.inr 57)), some (.inl t), some (.inl 0), none, none] [.inr (.inr 47)] σ1 _
    refine jw_W_call (as := [.inr (.inr 47)]) (rest := []) rfl rfl rfl rfl (Nat.le_of_ble_eq_true rfl) (.inr rfl) (jx_find_L H1 hl24 (fun r hr => jx_WY_rb hM hr) (fun v hv hg => jx_WY_bd hM hv hg)) (by omega) ?_ rfl
    rintro r1 σ2 ⟨rfl, hq1, P, p1, p2, p3⟩
    have fo := fun (c : Nat) (h1 : o ≤ c) (h2 : c ≤ o + 5) => hq1 c (by omega)
    have hpq := jx_M_fr fo
    have hfo2 : (σ2 57 6).toNat = o := by rw [hq1 57 (by omega)]; exact hfo
    have e1 : σ2 o 1 = σ o 1 := hpq.1.2.1
    have hlP := jx_V_len p2 hl24 p3
    have hb := jx_pl_pb p1 (by omega) (fun v hv => jx_WY_bd hM ((p3 v).mp hv).1 ((p3 v).mp hv).2)
    show jw_W (js_S n) _ md_3 15 [some (.inr (.inr 57)), some (.inl t), some (.inl 0), none, none] [] σ2 _
    refine jw_W_n 2 (i' := 17) (ls' := [some (.inr (.inr 57)), some (.inl t), some (.inl 0), some (.inl 0), none]) (st' := []) rfl ?_
    refine jx_ris_i (D := 5) (by omega) hfo2 hp (by omega) (fun w w0 w1 => ?_) hb (fun m4 a4 H4 => ?_) (σ2 48 0).toNat (i := 0) (by omega) (by have := hb.1; omega) (jx_mi_0 _ _)
    · rw [jx_pq_W hpq w0 (by rw [jx_M4]; omega)]
      exact jx_W_Gb hM w0 (by rw [jx_M4]; omega)
    refine jw_W_n 1 (i' := 53) (ls' := [some (.inr (.inr 57)), some (.inl t), some (.inl m4), some (.inl (σ2 48 0)), a4]) (st' := [.inl m4]) rfl ?_
    refine jw_W_ir rfl ?_
    exact ⟨m4, rfl, hq1, jx_ris_end hpq p1 p3 H4⟩

/-! ===== turn: the reference ===== -/
theorem jn_sorted_eqT {α : Type} {lt : α → α → Prop} : ∀ {P Q : List α}, (∀ a ∈ P, ∀ b ∈ P, lt a b → lt b a → False) → P.Pairwise lt → Q.Pairwise lt → (∀ v, v ∈ P ↔ v ∈ Q) → P = Q
  | [], [], _, _, _, _ => rfl
  | [], q :: Q, _, _, _, h => by
    have := (h q).mpr List.mem_cons_self
    cases this
  | p :: P, [], _, _, _, h => by
    have := (h p).mp List.mem_cons_self
    cases this
  | p :: P, q :: Q, ha, hP, hQ, h => by
    have hP2 := List.pairwise_cons.mp hP
    have hQ2 := List.pairwise_cons.mp hQ
    have hpq : p = q := by
      have h1 := (h p).mp List.mem_cons_self
      have h2 := (h q).mpr List.mem_cons_self
      rcases List.mem_cons.mp h1 with h1 | h1
      · exact h1
      · rcases List.mem_cons.mp h2 with h2 | h2
        · exact h2.symm
        · exact absurd (hQ2.1 p h1) (fun hh => ha p List.mem_cons_self q (List.mem_cons_of_mem _ h2) (hP2.1 q h2) hh)
    subst hpq
    rw [jn_sorted_eqT (P := P) (Q := Q) (fun a h1 b h2 => ha a (List.mem_cons_of_mem _ h1) b (List.mem_cons_of_mem _ h2)) hP2.2 hQ2.2 (fun v => ?_)]
    constructor
    · intro hv
      rcases List.mem_cons.mp ((h v).mp (List.mem_cons_of_mem _ hv)) with hh | hh
      · rw [hh] at hv
        exact absurd (hP2.1 p hv) (fun hx => ha p List.mem_cons_self p List.mem_cons_self hx hx)
      · exact hh
    · intro hv
      rcases List.mem_cons.mp ((h v).mpr (List.mem_cons_of_mem _ hv)) with hh | hh
      · rw [hh] at hv
        exact absurd (hQ2.1 p hv) (fun hx => ha p List.mem_cons_self p List.mem_cons_self hx hx)
      · exact hh
/-- a turn of a corner -/
def jn_tt (σ : jw_H) (c u l : Int) : Prop := jn_t1 (jm_mw σ 0 c) (jm_mw σ 1 c) (σ 103 56).toNat u l
def jn_isT (σ : jw_H) (y : Int × Int) : Prop := 0 < y.2 ∧ jx_fr y.1 y.2 = y ∧ ∃ c, (0 ≤ c ∧ c < σ 103 56) ∧ jn_tt σ c y.1 y.2
def jn_TL (σ : jw_H) (R : List (Int × Int)) : Prop := R.Pairwise jn_lt ∧ ∀ y, y ∈ R ↔ jn_isT σ y
/-- the answer of turn -/
def jn_tra (σ : jw_H) (t v : Int) : Prop := (v = -1 ∧ ¬ (t = 200 ∨ (0 ≤ t ∧ t < 100))) ∨ ((t = 200 ∨ (0 ≤ t ∧ t < 100)) ∧ ((v = -3 ∧ σ 103 4 ≠ 2) ∨ (σ 103 4 = 2 ∧ ∃ R, jn_TL σ R ∧ ((t = 200 ∧ v = (R.length : Int)) ∨ (t ≠ 200 ∧ (R.length : Int) ≤ t / 2 ∧ v = -2) ∨ (t ≠ 200 ∧ ∃ y, R[(t / 2).toNat]? = some y ∧ v = if t % 2 = 0 then y.1 else y.2)))))
theorem jn_TL_uq {σ : jw_H} {R S : List (Int × Int)} (h1 : jn_TL σ R) (h2 : jn_TL σ S) : R = S := by
  refine jn_sorted_eqT (fun a _ b _ g1 g2 => ?_) h1.1 h2.1 (fun v => (h1.2 v).trans (h2.2 v).symm)
  unfold jn_lt at g1 g2
  omega
theorem jn_tra_uq {σ : jw_H} {t u v : Int} (h1 : jn_tra σ t u) (h2 : jn_tra σ t v) : u = v := by
  rcases h1 with ⟨e1, a1⟩ | ⟨a1, ⟨e1, b1⟩ | ⟨b1, R, hR, c1⟩⟩ <;> rcases h2 with ⟨e2, a2⟩ | ⟨a2, ⟨e2, b2⟩ | ⟨b2, S, hS, c2⟩⟩
  · exact e1.trans e2.symm
  · exact absurd a2 a1
  · exact absurd a2 a1
  · exact absurd a1 a2
  · exact e1.trans e2.symm
  · exact absurd b2 b1
  · exact absurd a1 a2
  · exact absurd b1 b2
  · have e := jn_TL_uq hR hS
    subst e
    rcases c1 with ⟨d1, e1⟩ | ⟨d1, d2, e1⟩ | ⟨d1, y, d2, e1⟩ <;> rcases c2 with ⟨f1, e2⟩ | ⟨f1, f2, e2⟩ | ⟨f1, z, f2, e2⟩ <;> first | exact e1.trans e2.symm | exact absurd d1 f1 | exact absurd f1 d1 | (have := (List.getElem?_eq_some_iff.mp f2).1; omega) | (have := (List.getElem?_eq_some_iff.mp d2).1; omega) | (rw [d2] at f2; cases f2; exact e1.trans e2.symm)
theorem jn_tra_me {σ0 σ : jw_H} (h : jx_me σ0 σ) (t v : Int) : jn_tra σ t v ↔ jn_tra σ0 t v := by
  have e : ∀ y, jn_isT σ y ↔ jn_isT σ0 y := fun y => by
    unfold jn_isT jn_tt
    simp only [jm_mw_me h, h 103 (by omega)]
  unfold jn_tra jn_TL
  simp only [e, h 103 (by omega)]
theorem jn_t1_sc {A B : Int → Int} {m : Nat} {u l u' l' : Int} (l0 : 0 < l) (l0' : 0 < l') (h : u * l' = u' * l) (ht : jn_t1 A B m u l) : jn_t1 A B m u' l' := by
  rw [jn_t1_iff l0'] 
  obtain ⟨h1, h2⟩ := (jn_t1_iff l0).mp ht
  refine ⟨h1, ?_⟩
  have hp := jn_sh_pos A B m
  unfold jn_ends at *
  refine h2.imp (fun ⟨g1, g2⟩ => ⟨g1, ?_⟩) (fun ⟨g1, g2⟩ => ⟨g1, ?_⟩)
  · refine Int.eq_of_mul_eq_mul_left (show l ≠ 0 by omega) ?_
    have k1 : l * (u' * (jm_sh A B m).2.1) = (u' * l) * (jm_sh A B m).2.1 := by grind
    have k2 : l * ((jm_sh A B m).1 * l') = (u * (jm_sh A B m).2.1) * l' := by rw [g2]; grind
    rw [k1, k2, ← h]
    grind
  · refine Int.eq_of_mul_eq_mul_left (show l ≠ 0 by omega) ?_
    have k1 : l * (u' * (jm_sh A B m).2.2.2) = (u' * l) * (jm_sh A B m).2.2.2 := by grind
    have k2 : l * ((jm_sh A B m).2.2.1 * l') = (u * (jm_sh A B m).2.2.2) * l' := by rw [g2]; grind
    rw [k1, k2, ← h]
    grind
/-- there are not many -/
theorem jn_T_len {σ : jw_H} {L : List (Int × Int)} (hs : L.Pairwise jn_lt) (h : ∀ y ∈ L, 0 < y.2 ∧ ∃ c, (0 ≤ c ∧ c < σ 103 56) ∧ jn_tt σ c y.1 y.2) : L.length ≤ 2 * (σ 103 56).toNat := by
  have hlen : ∀ (f g : Nat → (Int × Int) → Prop) (m : Nat), ((List.range m).flatMap (fun c => [f c, g c])).length = 2 * m := by
    intro f g m
    induction m with
    | zero => rfl
    | succ m ih =>
      rw [List.range_succ, List.flatMap_append, List.length_append, ih]
      simp
      omega
  have hq := ge_pig (fun a b : Int × Int => a.1 * b.2 = b.1 * a.2) ((List.range (σ 103 56).toNat).flatMap (fun c : Nat => [fun y : Int × Int => y.1 * (jm_sh (jm_mw σ 0 (c : Int)) (jm_mw σ 1 (c : Int)) (σ 103 56).toNat).2.1 = (jm_sh (jm_mw σ 0 (c : Int)) (jm_mw σ 1 (c : Int)) (σ 103 56).toNat).1 * y.2, fun y : Int × Int => y.1 * (jm_sh (jm_mw σ 0 (c : Int)) (jm_mw σ 1 (c : Int)) (σ 103 56).toNat).2.2.2 = (jm_sh (jm_mw σ 0 (c : Int)) (jm_mw σ 1 (c : Int)) (σ 103 56).toNat).2.2.1 * y.2])) L (hs.imp (fun hh e => by unfold jn_lt at hh; omega)) (fun y hy => ?_) (fun q hq a ha b hb qa qb => ?_)
  · rw [hlen (fun c y => y.1 * (jm_sh (jm_mw σ 0 (c : Int)) (jm_mw σ 1 (c : Int)) (σ 103 56).toNat).2.1 = (jm_sh (jm_mw σ 0 (c : Int)) (jm_mw σ 1 (c : Int)) (σ 103 56).toNat).1 * y.2) (fun c y => y.1 * (jm_sh (jm_mw σ 0 (c : Int)) (jm_mw σ 1 (c : Int)) (σ 103 56).toNat).2.2.2 = (jm_sh (jm_mw σ 0 (c : Int)) (jm_mw σ 1 (c : Int)) (σ 103 56).toNat).2.2.1 * y.2)] at hq
    exact hq
  · obtain ⟨h1, c, hc, h2⟩ := h y hy
    obtain ⟨-, h3⟩ := (jn_t1_iff h1).mp h2
    have hcm : c.toNat ∈ List.range (σ 103 56).toNat := List.mem_range.mpr (by omega)
    have ec : ((c.toNat : Nat) : Int) = c := by omega
    rcases h3 with ⟨-, h3⟩ | ⟨-, h3⟩
    · exact ⟨_, List.mem_flatMap.mpr ⟨c.toNat, hcm, List.mem_cons_self⟩, by rw [ec]; exact h3⟩
    · exact ⟨_, List.mem_flatMap.mpr ⟨c.toNat, hcm, List.mem_cons_of_mem _ List.mem_cons_self⟩, by rw [ec]; exact h3⟩
  · obtain ⟨c, -, hc⟩ := List.mem_flatMap.mp hq
    have hp := jn_sh_pos (jm_mw σ 0 (c : Int)) (jm_mw σ 1 (c : Int)) (σ 103 56).toNat
    rcases List.mem_cons.mp hc with rfl | hc
    · refine Int.eq_of_mul_eq_mul_left (a := (jm_sh (jm_mw σ 0 (c : Int)) (jm_mw σ 1 (c : Int)) (σ 103 56).toNat).2.1) (by omega) ?_
      grind
    · rcases List.mem_cons.mp hc with rfl | hc
      · refine Int.eq_of_mul_eq_mul_left (a := (jm_sh (jm_mw σ 0 (c : Int)) (jm_mw σ 1 (c : Int)) (σ 103 56).toNat).2.2.2) (by omega) ?_
        grind
      · cases hc
/-- the reference's list, each share without a common divisor -/
theorem jn_TL_map {σ : jw_H} {L : List (Int × Int)} (hs : L.Pairwise jn_lt) (h1 : ∀ y ∈ L, 0 < y.2 ∧ ∃ c, (0 ≤ c ∧ c < σ 103 56) ∧ jn_tt σ c y.1 y.2) (h2 : ∀ c u l, 0 ≤ c → c < σ 103 56 → 0 < l → jn_tt σ c u l → ∃ y ∈ L, y.1 * l = u * y.2) : jn_TL σ (L.map (fun y => jx_fr y.1 y.2)) := by
  refine ⟨List.pairwise_map.mpr ?_, fun y => ?_⟩
  · refine List.Pairwise.imp_of_mem (fun {a b} ha hb hab => ?_) hs
    obtain ⟨g, g0, e1, e2⟩ := jx_fr_gl (u := a.1) (h1 a ha).1
    have q0 := jx_fr_pos (u := b.1) (l := b.2) (by have := (h1 b hb).1; omega)
    have q1 := jx_fr_pos (u := a.1) (l := a.2) (by have := (h1 a ha).1; omega)
    unfold jn_lt at *
    exact (jx_fr_lt (h1 a ha).1).mpr ((jx_fr_gt (h1 b hb).1).mpr (by omega) |> fun hh => by
      have := hh
      omega)
  · constructor
    · intro hy
      obtain ⟨z, hz, rfl⟩ := List.mem_map.mp hy
      obtain ⟨g1, c, hc, ht⟩ := h1 z hz
      have q1 := jx_fr_pos (u := z.1) (l := z.2) (by omega)
      obtain ⟨g, g0, e1, e2⟩ := jx_fr_gl (u := z.1) g1
      refine ⟨q1, jx_fr_id g1, c, hc, jn_t1_sc g1 q1 ?_ ht⟩
      generalize hf : jx_fr z.1 z.2 = f at *
      rw [e1, e2]
      grind
    · rintro ⟨g1, g2, c, hc, ht⟩
      obtain ⟨z, hz, ez⟩ := h2 c y.1 y.2 hc.1 hc.2 g1 ht
      refine List.mem_map.mpr ⟨z, hz, ?_⟩
      rw [← g2]
      exact jx_fr_eq (h1 z hz).1 g1 ez
def jn_f66 (σ0 σ : jw_H) : Prop := (∀ c, c ≠ 103 → c ≠ 140 → c ≠ 141 → σ c = σ0 c) ∧ ∀ j, (j < 60 ∨ (63 < j ∧ j ≠ 66)) → σ 103 j = σ0 103 j
theorem jn_f66_z {σ σ' : jw_H} {C : List (ge_R × Int)} (hKN : jm_KN σ C) (h : jn_f66 σ σ') : jm_fz σ σ' := by
  refine ⟨fun o h1 h2 => h.1 o h2 (by omega) (by omega), fun j hj => h.2 j (by omega), ?_⟩
  have hN := hKN.1.2.2.2.2.1
  unfold jm_Ns at *
  rw [h.1 131 (by omega) (by omega) (by omega)]
  exact hN
theorem jn_f66_mw {σ σ' : jw_H} (h : jn_f66 σ σ') (w i : Int) : jm_mw σ' w i = jm_mw σ w i := by
  funext j
  unfold jm_mw jm_W jm_ct
  rw [h.1 104 (by omega) (by omega) (by omega), h.1 132 (by omega) (by omega) (by omega), h.1 133 (by omega) (by omega) (by omega), h.1 134 (by omega) (by omega) (by omega), h.1 135 (by omega) (by omega) (by omega)]
/-- the shares of the first so many corners -/
def jn_tz (σ0 : jw_H) (i : Int) (L : List (Int × Int)) : Prop := L.Pairwise jn_lt ∧ (∀ y ∈ L, jn_sm y ∧ ∃ c, (0 ≤ c ∧ c < σ0 103 56) ∧ jn_tt σ0 c y.1 y.2) ∧ ∀ c u l, 0 ≤ c → c < i → 0 < l → jn_tt σ0 c u l → ∃ y ∈ L, y.1 * l = u * y.2
theorem jn_tz_len {σ0 : jw_H} {i : Int} {L : List (Int × Int)} (hn : σ0 103 56 ≤ 20) (h : jn_tz σ0 i L) : L.length < 64 := by
  have := jn_T_len h.1 (fun y hy => ⟨(h.2.1 y hy).1.2.1, (h.2.1 y hy).2⟩)
  omega
theorem jn_fr_tr {y1 y2 s1 s2 u l : Int} (hs : 0 < s2) (h1 : y1 * s2 = s1 * y2) (h2 : u * s2 = s1 * l) : y1 * l = u * y2 := by
  refine Int.eq_of_mul_eq_mul_left (a := s2) (by omega) ?_
  have k1 : s2 * (y1 * l) = (y1 * s2) * l := by grind
  have k2 : s2 * (u * y2) = (u * s2) * y2 := by grind
  rw [k1, k2, h1, h2]
  grind
def jn_tp (σ0 : jw_H) (L : List (Int × Int)) : Prop := L.Pairwise jn_lt ∧ ∀ y ∈ L, jn_sm y ∧ ∃ c, (0 ≤ c ∧ c < σ0 103 56) ∧ jn_tt σ0 c y.1 y.2
theorem jn_tp_len {σ0 : jw_H} {L : List (Int × Int)} (hn : σ0 103 56 ≤ 20) (h : jn_tp σ0 L) : L.length < 64 := by
  have := jn_T_len h.1 (fun y hy => ⟨(h.2 y hy).1.2.1, (h.2 y hy).2⟩)
  omega
theorem jn_tp_add {σ0 : jw_H} {L L' : List (Int × Int)} {i u l : Int} (h : jn_tp σ0 L) (i0 : 0 ≤ i) (i1 : i < σ0 103 56) (hx : jn_sm (u, l)) (ht : jn_tt σ0 i u l) (h1 : L'.Pairwise jn_lt) (h2 : ∀ y ∈ L', y ∈ L ∨ y = (u, l)) : jn_tp σ0 L' := by
  refine ⟨h1, fun y hy => ?_⟩
  rcases h2 y hy with hh | hh
  · exact h.2 y hh
  · rw [hh]
    exact ⟨hx, i, ⟨i0, i1⟩, ht⟩
theorem jn_tz_s {σ0 : jw_H} {L L' : List (Int × Int)} {i : Int} (h : jn_tz σ0 i L) (h' : jn_tp σ0 L') (hs : ∀ y ∈ L, y ∈ L') (hc : ∀ u l, 0 < l → jn_tt σ0 i u l → ∃ y ∈ L', y.1 * l = u * y.2) : jn_tz σ0 (i + 1) L' := by
  refine ⟨h'.1, h'.2, fun c u l c0 c1 l0 ht => ?_⟩
  by_cases e : c = i
  · rw [e] at ht
    exact hc u l l0 ht
  · obtain ⟨y, hy, ey⟩ := h.2.2 c u l c0 (by omega) l0 ht
    exact ⟨y, hs y hy, ey⟩
theorem jm_lt_loop {n : Nat} {σ0 : jw_H} {D : Nat} (hD : 5 ≤ D) {C : List (ge_R × Int)} (hKN0 : jm_KN σ0 C) (h2 : σ0 103 4 = 2) : ∀ (f : Nat) {σ : jw_H} {i : Int} {L : List (Int × Int)}, 0 ≤ i → i + f = σ0 103 56 → jn_f66 σ0 σ → jn_tw 140 141 103 66 σ L → jn_tz σ0 i L → jw_W (js_S n) D md_288 5 [some (.inr (.inr 103)), some (.inl i)] [] σ (fun r σ' => r = none ∧ jn_f66 σ0 σ' ∧ ∃ L, jn_tw 140 141 103 66 σ' L ∧ jn_tz σ0 (σ0 103 56) L)
  | f, σ, i, L, i0, hk, hfr, hL, hz => by
    have ih : ∀ {σ' : jw_H} {L' : List (Int × Int)}, i < σ0 103 56 → jn_f66 σ0 σ' → jn_tw 140 141 103 66 σ' L' → jn_tz σ0 (i + 1) L' → jw_W (js_S n) D md_288 5 [some (.inr (.inr 103)), some (.inl (i + 1))] [] σ' (fun r σ' => r = none ∧ jn_f66 σ0 σ' ∧ ∃ L, jn_tw 140 141 103 66 σ' L ∧ jn_tz σ0 (σ0 103 56) L) := by
      intro σ' L' h1 h3 h4 h5
      match f, hk with
      | 0, hk => omega
      | f + 1, hk => exact jm_lt_loop hD hKN0 h2 f (by omega) (by omega) h3 h4 h5
    have hP0 := hKN0.1.1
    have hcb := (jm_kw_cbd hKN0.1).2 σ0 (jm_fk_rf σ0)
    have hcn := hcb.1
    have e56 : σ 103 56 = σ0 103 56 := hfr.2 56 (by omega)
    have hKN := jm_KN_fz (jn_f66_z hKN0 hfr) hKN0
    have htp0 : jn_tp σ0 L := ⟨hz.1, hz.2.1⟩
    refine jw_W_n 2 (i' := 7) (ls' := [some (.inr (.inr 103)), some (.inl i)]) (st' := [.inr (.inr 103), .inl i]) rfl ?_
    refine jw_W_gf rfl rfl rfl ?_
    show jw_W (js_S n) _ md_288 8 [some (.inr (.inr 103)), some (.inl i)] [.inl (σ 103 56), .inl i] σ _
    refine jw_W_ic rfl (by unfold jw_rg; omega) (by unfold jw_rg; omega) (fun hc1 => ?_) (fun hc1 => ?_)
    · have hc1 : i ≥ (σ 103 56) := hc1
      refine jw_W_re rfl ?_
      have hkl : i = σ0 103 56 := by omega
      subst hkl
      exact ⟨rfl, hfr, L, hL, hz⟩
    · have hc1 : ¬ (i ≥ (σ 103 56)) := hc1
      refine jw_W_n 2 (i' := 11) (ls' := [some (.inr (.inr 103)), some (.inl i)]) (st' := [.inl i, .inr (.inr 103)]) rfl ?_
      refine jw_W_call (as := [.inr (.inr 103), .inl i]) (rest := []) rfl rfl rfl rfl (Nat.le_of_ble_eq_true rfl) (.inr rfl) (jm_laysWeights hKN i0 (by omega) (by rw [hfr.2 4 (by omega)]; exact h2)) (by omega) ?_ rfl
      rintro r1 σ1 ⟨v, rfl, hf1, hv⟩
      have hv01 : v = 0 ∨ v = 1 := by rcases hv with ⟨e, -⟩ | ⟨e, -⟩ <;> omega
      have hfr1 : jn_f66 σ0 σ1 := ⟨fun c a1 a2 a3 => (hf1.1 c a1).trans (hfr.1 c a1 a2 a3), fun j hj => (hf1.2 j (by omega)).trans (hfr.2 j hj)⟩
      have hL1 : jn_tw 140 141 103 66 σ1 L := by unfold jn_tw; rw [hf1.1 140 (by omega), hf1.1 141 (by omega), hf1.2 66 (by omega)]; exact hL
      show jw_W (js_S n) _ md_288 12 [some (.inr (.inr 103)), some (.inl i)] [.inl v] σ1 _
      refine jw_W_if rfl (by unfold jw_rg; omega) (fun hc2 => ?_) (fun hc2 => ?_)
      · have hc2 : v = 0 := hc2
        refine jw_W_n 2 (i' := 5) (ls' := [some (.inr (.inr 103)), some (.inl (i + 1))]) (st' := []) rfl ?_
        refine ih (by omega) hfr1 hL1 (jn_tz_s hz htp0 (fun y hy => hy) (fun u l l0 ht => ?_))
        obtain ⟨hhs2, he⟩ := (jn_t1_iff l0).mp ht
        exfalso
        rcases hv with ⟨hv, -⟩ | ⟨-, hv⟩
        · omega
        · apply hv
          unfold jm_hsn
          rw [jn_f66_mw hfr, jn_f66_mw hfr, hfr.2 56 (by omega)]
          rw [Int.toNat_of_nonneg hcn.1] at hhs2
          exact hhs2
      · have hc2 : ¬ (v = 0) := hc2
        obtain ⟨-, hsh, hhs⟩ := hv.resolve_right (fun hh => by omega)
        rw [show jm_shn σ i = (jm_sh (jm_mw σ0 0 i) (jm_mw σ0 1 i) (σ0 103 56).toNat) by unfold jm_shn; rw [jn_f66_mw hfr, jn_f66_mw hfr, hfr.2 56 (by omega)]] at hsh
        have hhs : jm_hs (jm_mw σ0 0 i) (jm_mw σ0 1 i) ((σ0 103 56).toNat : Nat) := by unfold jm_hsn at hhs; rw [jn_f66_mw hfr, jn_f66_mw hfr, hfr.2 56 (by omega)] at hhs; rw [Int.toNat_of_nonneg hcn.1]; exact hhs
        have hsb := jm_shb hP0 hcb h2 i0 (by omega) (j := σ0 103 56) (by omega) (by omega)
        have hpos := jn_sh_pos (jm_mw σ0 0 i) (jm_mw σ0 1 i) (σ0 103 56).toNat
        have q60 : σ1 103 60 = (jm_sh (jm_mw σ0 0 i) (jm_mw σ0 1 i) (σ0 103 56).toNat).1 := congrArg (·.1) hsh
        have q61 : σ1 103 61 = (jm_sh (jm_mw σ0 0 i) (jm_mw σ0 1 i) (σ0 103 56).toNat).2.1 := congrArg (·.2.1) hsh
        have q62 : σ1 103 62 = (jm_sh (jm_mw σ0 0 i) (jm_mw σ0 1 i) (σ0 103 56).toNat).2.2.1 := congrArg (·.2.2.1) hsh
        have q63 : σ1 103 63 = (jm_sh (jm_mw σ0 0 i) (jm_mw σ0 1 i) (σ0 103 56).toNat).2.2.2 := congrArg (·.2.2.2) hsh
        obtain ⟨sb1, sb2, sb3, sb4⟩ := hsb
        refine jw_W_n 1 (i' := 14) (ls' := [some (.inr (.inr 103)), some (.inl i)]) (st' := [.inr (.inr 103)]) rfl ?_
        refine jw_W_gf rfl rfl rfl ?_
        show jw_W (js_S n) _ md_288 15 [some (.inr (.inr 103)), some (.inl i)] [.inr (.inl (σ1 103 60))] σ1 _
        rw [q60]
        refine jw_W_n 1 (i' := 16) (ls' := [some (.inr (.inr 103)), some (.inl i)]) (st' := [.inr (.inl 0), .inr (.inl ((jm_sh (jm_mw σ0 0 i) (jm_mw σ0 1 i) (σ0 103 56).toNat).1))]) rfl ?_
        refine jw_W_lc rfl rfl (by unfold jw_rgl; omega) (by unfold jw_rgl; omega) (fun hc3 => ?_) (fun hc3 => ?_)
        · have hc3 : ((jm_sh (jm_mw σ0 0 i) (jm_mw σ0 1 i) (σ0 103 56).toNat).1) ≤ 0 := hc3
          refine jw_W_n 1 (i' := 31) (ls' := [some (.inr (.inr 103)), some (.inl i)]) (st' := [.inr (.inr 103)]) rfl ?_
          refine jw_W_gf rfl rfl rfl ?_
          show jw_W (js_S n) _ md_288 32 [some (.inr (.inr 103)), some (.inl i)] [.inr (.inl (σ1 103 62))] σ1 _
          rw [q62]
          refine jw_W_n 1 (i' := 33) (ls' := [some (.inr (.inr 103)), some (.inl i)]) (st' := [.inr (.inl 0), .inr (.inl ((jm_sh (jm_mw σ0 0 i) (jm_mw σ0 1 i) (σ0 103 56).toNat).2.2.1))]) rfl ?_
          refine jw_W_lc rfl rfl (by unfold jw_rgl; omega) (by unfold jw_rgl; omega) (fun hc4 => ?_) (fun hc4 => ?_)
          · have hc4 : ((jm_sh (jm_mw σ0 0 i) (jm_mw σ0 1 i) (σ0 103 56).toNat).2.2.1) ≤ 0 := hc4
            refine jw_W_n 2 (i' := 5) (ls' := [some (.inr (.inr 103)), some (.inl (i + 1))]) (st' := []) rfl ?_
            refine ih (by omega) hfr1 hL1 (jn_tz_s hz htp0 (fun y hy => hy) (fun u l l0 ht => ?_))
            obtain ⟨hhs2, he⟩ := (jn_t1_iff l0).mp ht
            rcases he with ⟨he1, he2⟩ | ⟨he1, he2⟩
            · exfalso
              omega
            · exfalso
              omega
          · have hc4 : ¬ (((jm_sh (jm_mw σ0 0 i) (jm_mw σ0 1 i) (σ0 103 56).toNat).2.2.1) ≤ 0) := hc4
            refine jw_W_n 1 (i' := 36) (ls' := [some (.inr (.inr 103)), some (.inl i)]) (st' := [.inr (.inr 103)]) rfl ?_
            refine jw_W_gf rfl rfl rfl ?_
            show jw_W (js_S n) _ md_288 37 [some (.inr (.inr 103)), some (.inl i)] [.inr (.inl (σ1 103 62))] σ1 _
            rw [q62]
            refine jw_W_n 1 (i' := 38) (ls' := [some (.inr (.inr 103)), some (.inl i)]) (st' := [.inr (.inr 103), .inr (.inl ((jm_sh (jm_mw σ0 0 i) (jm_mw σ0 1 i) (σ0 103 56).toNat).2.2.1))]) rfl ?_
            refine jw_W_gf rfl rfl rfl ?_
            show jw_W (js_S n) _ md_288 39 [some (.inr (.inr 103)), some (.inl i)] [.inr (.inl (σ1 103 63)), .inr (.inl ((jm_sh (jm_mw σ0 0 i) (jm_mw σ0 1 i) (σ0 103 56).toNat).2.2.1))] σ1 _
            rw [q63]
            refine jw_W_lc rfl rfl (by unfold jw_rgl; omega) (by unfold jw_rgl; omega) (fun hc5 => ?_) (fun hc5 => ?_)
            · have hc5 : ((jm_sh (jm_mw σ0 0 i) (jm_mw σ0 1 i) (σ0 103 56).toNat).2.2.1) ≥ ((jm_sh (jm_mw σ0 0 i) (jm_mw σ0 1 i) (σ0 103 56).toNat).2.2.2) := hc5
              refine jw_W_n 2 (i' := 5) (ls' := [some (.inr (.inr 103)), some (.inl (i + 1))]) (st' := []) rfl ?_
              refine ih (by omega) hfr1 hL1 (jn_tz_s hz htp0 (fun y hy => hy) (fun u l l0 ht => ?_))
              obtain ⟨hhs2, he⟩ := (jn_t1_iff l0).mp ht
              rcases he with ⟨he1, he2⟩ | ⟨he1, he2⟩
              · exfalso
                omega
              · exfalso
                omega
            · have hc5 : ¬ (((jm_sh (jm_mw σ0 0 i) (jm_mw σ0 1 i) (σ0 103 56).toNat).2.2.1) ≥ ((jm_sh (jm_mw σ0 0 i) (jm_mw σ0 1 i) (σ0 103 56).toNat).2.2.2)) := hc5
              refine jw_W_n 2 (i' := 43) (ls' := [some (.inr (.inr 103)), some (.inl i)]) (st' := [.inr (.inr 103), .inr (.inr 103)]) rfl ?_
              refine jw_W_gf rfl rfl rfl ?_
              show jw_W (js_S n) _ md_288 44 [some (.inr (.inr 103)), some (.inl i)] [.inr (.inl (σ1 103 62)), .inr (.inr 103)] σ1 _
              rw [q62]
              refine jw_W_n 1 (i' := 45) (ls' := [some (.inr (.inr 103)), some (.inl i)]) (st' := [.inr (.inr 103), .inr (.inl ((jm_sh (jm_mw σ0 0 i) (jm_mw σ0 1 i) (σ0 103 56).toNat).2.2.1)), .inr (.inr 103)]) rfl ?_
              refine jw_W_gf rfl rfl rfl ?_
              show jw_W (js_S n) _ md_288 46 [some (.inr (.inr 103)), some (.inl i)] [.inr (.inl (σ1 103 63)), .inr (.inl ((jm_sh (jm_mw σ0 0 i) (jm_mw σ0 1 i) (σ0 103 56).toNat).2.2.1)), .inr (.inr 103)] σ1 _
              rw [q63]
              refine jw_W_call (as := [.inr (.inr 103), .inr (.inl ((jm_sh (jm_mw σ0 0 i) (jm_mw σ0 1 i) (σ0 103 56).toNat).2.2.1)), .inr (.inl ((jm_sh (jm_mw σ0 0 i) (jm_mw σ0 1 i) (σ0 103 56).toNat).2.2.2))]) (rest := []) rfl rfl rfl rfl (Nat.le_of_ble_eq_true rfl) (.inr rfl) (jm_addsTurn (u := (jm_sh (jm_mw σ0 0 i) (jm_mw σ0 1 i) (σ0 103 56).toNat).2.2.1) (l := (jm_sh (jm_mw σ0 0 i) (jm_mw σ0 1 i) (σ0 103 56).toNat).2.2.2) (by unfold jn_sm; simp only; omega) (fun y hy => (htp0.2 y hy).1) htp0.1 hL1 (jn_tp_len hcn.2 htp0)) (by omega) ?_ rfl
              rintro r1 σ2 ⟨rfl, hf2, L2, hL2, hso2, hsub2, hin2, hex2⟩
              have hfr2 : jn_f66 σ0 σ2 := ⟨fun c a1 a2 a3 => (hf2.1 c a1 a2 a3).trans (hfr1.1 c a1 a2 a3), fun j hj => (hf2.2 j (by omega)).trans (hfr1.2 j hj)⟩
              have htp2 : jn_tp σ0 L2 := jn_tp_add htp0 i0 (by omega) (by unfold jn_sm; simp only; omega) ((jn_t1_iff (by omega)).mpr ⟨hhs, .inr ⟨⟨by omega, by omega⟩, rfl⟩⟩) hso2 hsub2
              have hhigh2 : ∃ y ∈ L2, y.1 * (jm_sh (jm_mw σ0 0 i) (jm_mw σ0 1 i) (σ0 103 56).toNat).2.2.2 = (jm_sh (jm_mw σ0 0 i) (jm_mw σ0 1 i) (σ0 103 56).toNat).2.2.1 * y.2 := hex2
              have q262 : σ2 103 62 = (jm_sh (jm_mw σ0 0 i) (jm_mw σ0 1 i) (σ0 103 56).toNat).2.2.1 := by rw [hf2.2 62 (by omega)]; exact q62
              have q263 : σ2 103 63 = (jm_sh (jm_mw σ0 0 i) (jm_mw σ0 1 i) (σ0 103 56).toNat).2.2.2 := by rw [hf2.2 63 (by omega)]; exact q63
              show jw_W (js_S n) _ md_288 47 [some (.inr (.inr 103)), some (.inl i)] [] σ2 _
              refine jw_W_n 2 (i' := 5) (ls' := [some (.inr (.inr 103)), some (.inl (i + 1))]) (st' := []) rfl ?_
              refine ih (by omega) hfr2 hL2 (jn_tz_s hz htp2 (fun y hy => hin2 y ((fun y hy => hy) y hy)) (fun u l l0 ht => ?_))
              obtain ⟨hhs2, he⟩ := (jn_t1_iff l0).mp ht
              rcases he with ⟨he1, he2⟩ | ⟨he1, he2⟩
              · exfalso
                omega
              · obtain ⟨y, hy, ey⟩ := hhigh2
                exact ⟨y, hy, jn_fr_tr (by omega) ey he2⟩
        · have hc3 : ¬ (((jm_sh (jm_mw σ0 0 i) (jm_mw σ0 1 i) (σ0 103 56).toNat).1) ≤ 0) := hc3
          refine jw_W_n 1 (i' := 19) (ls' := [some (.inr (.inr 103)), some (.inl i)]) (st' := [.inr (.inr 103)]) rfl ?_
          refine jw_W_gf rfl rfl rfl ?_
          show jw_W (js_S n) _ md_288 20 [some (.inr (.inr 103)), some (.inl i)] [.inr (.inl (σ1 103 60))] σ1 _
          rw [q60]
          refine jw_W_n 1 (i' := 21) (ls' := [some (.inr (.inr 103)), some (.inl i)]) (st' := [.inr (.inr 103), .inr (.inl ((jm_sh (jm_mw σ0 0 i) (jm_mw σ0 1 i) (σ0 103 56).toNat).1))]) rfl ?_
          refine jw_W_gf rfl rfl rfl ?_
          show jw_W (js_S n) _ md_288 22 [some (.inr (.inr 103)), some (.inl i)] [.inr (.inl (σ1 103 61)), .inr (.inl ((jm_sh (jm_mw σ0 0 i) (jm_mw σ0 1 i) (σ0 103 56).toNat).1))] σ1 _
          rw [q61]
          refine jw_W_lc rfl rfl (by unfold jw_rgl; omega) (by unfold jw_rgl; omega) (fun hc6 => ?_) (fun hc6 => ?_)
          · have hc6 : ((jm_sh (jm_mw σ0 0 i) (jm_mw σ0 1 i) (σ0 103 56).toNat).1) ≥ ((jm_sh (jm_mw σ0 0 i) (jm_mw σ0 1 i) (σ0 103 56).toNat).2.1) := hc6
            refine jw_W_n 1 (i' := 31) (ls' := [some (.inr (.inr 103)), some (.inl i)]) (st' := [.inr (.inr 103)]) rfl ?_
            refine jw_W_gf rfl rfl rfl ?_
            show jw_W (js_S n) _ md_288 32 [some (.inr (.inr 103)), some (.inl i)] [.inr (.inl (σ1 103 62))] σ1 _
            rw [q62]
            refine jw_W_n 1 (i' := 33) (ls' := [some (.inr (.inr 103)), some (.inl i)]) (st' := [.inr (.inl 0), .inr (.inl ((jm_sh (jm_mw σ0 0 i) (jm_mw σ0 1 i) (σ0 103 56).toNat).2.2.1))]) rfl ?_
            refine jw_W_lc rfl rfl (by unfold jw_rgl; omega) (by unfold jw_rgl; omega) (fun hc7 => ?_) (fun hc7 => ?_)
            · have hc7 : ((jm_sh (jm_mw σ0 0 i) (jm_mw σ0 1 i) (σ0 103 56).toNat).2.2.1) ≤ 0 := hc7
              refine jw_W_n 2 (i' := 5) (ls' := [some (.inr (.inr 103)), some (.inl (i + 1))]) (st' := []) rfl ?_
              refine ih (by omega) hfr1 hL1 (jn_tz_s hz htp0 (fun y hy => hy) (fun u l l0 ht => ?_))
              obtain ⟨hhs2, he⟩ := (jn_t1_iff l0).mp ht
              rcases he with ⟨he1, he2⟩ | ⟨he1, he2⟩
              · exfalso
                omega
              · exfalso
                omega
            · have hc7 : ¬ (((jm_sh (jm_mw σ0 0 i) (jm_mw σ0 1 i) (σ0 103 56).toNat).2.2.1) ≤ 0) := hc7
              refine jw_W_n 1 (i' := 36) (ls' := [some (.inr (.inr 103)), some (.inl i)]) (st' := [.inr (.inr 103)]) rfl ?_
              refine jw_W_gf rfl rfl rfl ?_
              show jw_W (js_S n) _ md_288 37 [some (.inr (.inr 103)), some (.inl i)] [.inr (.inl (σ1 103 62))] σ1 _
              rw [q62]
              refine jw_W_n 1 (i' := 38) (ls' := [some (.inr (.inr 103)), some (.inl i)]) (st' := [.inr (.inr 103), .inr (.inl ((jm_sh (jm_mw σ0 0 i) (jm_mw σ0 1 i) (σ0 103 56).toNat).2.2.1))]) rfl ?_
              refine jw_W_gf rfl rfl rfl ?_
              show jw_W (js_S n) _ md_288 39 [some (.inr (.inr 103)), some (.inl i)] [.inr (.inl (σ1 103 63)), .inr (.inl ((jm_sh (jm_mw σ0 0 i) (jm_mw σ0 1 i) (σ0 103 56).toNat).2.2.1))] σ1 _
              rw [q63]
              refine jw_W_lc rfl rfl (by unfold jw_rgl; omega) (by unfold jw_rgl; omega) (fun hc8 => ?_) (fun hc8 => ?_)
              · have hc8 : ((jm_sh (jm_mw σ0 0 i) (jm_mw σ0 1 i) (σ0 103 56).toNat).2.2.1) ≥ ((jm_sh (jm_mw σ0 0 i) (jm_mw σ0 1 i) (σ0 103 56).toNat).2.2.2) := hc8
                refine jw_W_n 2 (i' := 5) (ls' := [some (.inr (.inr 103)), some (.inl (i + 1))]) (st' := []) rfl ?_
                refine ih (by omega) hfr1 hL1 (jn_tz_s hz htp0 (fun y hy => hy) (fun u l l0 ht => ?_))
                obtain ⟨hhs2, he⟩ := (jn_t1_iff l0).mp ht
                rcases he with ⟨he1, he2⟩ | ⟨he1, he2⟩
                · exfalso
                  omega
                · exfalso
                  omega
              · have hc8 : ¬ (((jm_sh (jm_mw σ0 0 i) (jm_mw σ0 1 i) (σ0 103 56).toNat).2.2.1) ≥ ((jm_sh (jm_mw σ0 0 i) (jm_mw σ0 1 i) (σ0 103 56).toNat).2.2.2)) := hc8
                refine jw_W_n 2 (i' := 43) (ls' := [some (.inr (.inr 103)), some (.inl i)]) (st' := [.inr (.inr 103), .inr (.inr 103)]) rfl ?_
                refine jw_W_gf rfl rfl rfl ?_
                show jw_W (js_S n) _ md_288 44 [some (.inr (.inr 103)), some (.inl i)] [.inr (.inl (σ1 103 62)), .inr (.inr 103)] σ1 _
                rw [q62]
                refine jw_W_n 1 (i' := 45) (ls' := [some (.inr (.inr 103)), some (.inl i)]) (st' := [.inr (.inr 103), .inr (.inl ((jm_sh (jm_mw σ0 0 i) (jm_mw σ0 1 i) (σ0 103 56).toNat).2.2.1)), .inr (.inr 103)]) rfl ?_
                refine jw_W_gf rfl rfl rfl ?_
                show jw_W (js_S n) _ md_288 46 [some (.inr (.inr 103)), some (.inl i)] [.inr (.inl (σ1 103 63)), .inr (.inl ((jm_sh (jm_mw σ0 0 i) (jm_mw σ0 1 i) (σ0 103 56).toNat).2.2.1)), .inr (.inr 103)] σ1 _
                rw [q63]
                refine jw_W_call (as := [.inr (.inr 103), .inr (.inl ((jm_sh (jm_mw σ0 0 i) (jm_mw σ0 1 i) (σ0 103 56).toNat).2.2.1)), .inr (.inl ((jm_sh (jm_mw σ0 0 i) (jm_mw σ0 1 i) (σ0 103 56).toNat).2.2.2))]) (rest := []) rfl rfl rfl rfl (Nat.le_of_ble_eq_true rfl) (.inr rfl) (jm_addsTurn (u := (jm_sh (jm_mw σ0 0 i) (jm_mw σ0 1 i) (σ0 103 56).toNat).2.2.1) (l := (jm_sh (jm_mw σ0 0 i) (jm_mw σ0 1 i) (σ0 103 56).toNat).2.2.2) (by unfold jn_sm; simp only; omega) (fun y hy => (htp0.2 y hy).1) htp0.1 hL1 (jn_tp_len hcn.2 htp0)) (by omega) ?_ rfl
                rintro r1 σ3 ⟨rfl, hf3, L3, hL3, hso3, hsub3, hin3, hex3⟩
                have hfr3 : jn_f66 σ0 σ3 := ⟨fun c a1 a2 a3 => (hf3.1 c a1 a2 a3).trans (hfr1.1 c a1 a2 a3), fun j hj => (hf3.2 j (by omega)).trans (hfr1.2 j hj)⟩
                have htp3 : jn_tp σ0 L3 := jn_tp_add htp0 i0 (by omega) (by unfold jn_sm; simp only; omega) ((jn_t1_iff (by omega)).mpr ⟨hhs, .inr ⟨⟨by omega, by omega⟩, rfl⟩⟩) hso3 hsub3
                have hhigh3 : ∃ y ∈ L3, y.1 * (jm_sh (jm_mw σ0 0 i) (jm_mw σ0 1 i) (σ0 103 56).toNat).2.2.2 = (jm_sh (jm_mw σ0 0 i) (jm_mw σ0 1 i) (σ0 103 56).toNat).2.2.1 * y.2 := hex3
                have q362 : σ3 103 62 = (jm_sh (jm_mw σ0 0 i) (jm_mw σ0 1 i) (σ0 103 56).toNat).2.2.1 := by rw [hf3.2 62 (by omega)]; exact q62
                have q363 : σ3 103 63 = (jm_sh (jm_mw σ0 0 i) (jm_mw σ0 1 i) (σ0 103 56).toNat).2.2.2 := by rw [hf3.2 63 (by omega)]; exact q63
                show jw_W (js_S n) _ md_288 47 [some (.inr (.inr 103)), some (.inl i)] [] σ3 _
                refine jw_W_n 2 (i' := 5) (ls' := [some (.inr (.inr 103)), some (.inl (i + 1))]) (st' := []) rfl ?_
                refine ih (by omega) hfr3 hL3 (jn_tz_s hz htp3 (fun y hy => hin3 y ((fun y hy => hy) y hy)) (fun u l l0 ht => ?_))
                obtain ⟨hhs2, he⟩ := (jn_t1_iff l0).mp ht
                rcases he with ⟨he1, he2⟩ | ⟨he1, he2⟩
                · exfalso
                  omega
                · obtain ⟨y, hy, ey⟩ := hhigh3
                  exact ⟨y, hy, jn_fr_tr (by omega) ey he2⟩
          · have hc6 : ¬ (((jm_sh (jm_mw σ0 0 i) (jm_mw σ0 1 i) (σ0 103 56).toNat).1) ≥ ((jm_sh (jm_mw σ0 0 i) (jm_mw σ0 1 i) (σ0 103 56).toNat).2.1)) := hc6
            refine jw_W_n 2 (i' := 26) (ls' := [some (.inr (.inr 103)), some (.inl i)]) (st' := [.inr (.inr 103), .inr (.inr 103)]) rfl ?_
            refine jw_W_gf rfl rfl rfl ?_
            show jw_W (js_S n) _ md_288 27 [some (.inr (.inr 103)), some (.inl i)] [.inr (.inl (σ1 103 60)), .inr (.inr 103)] σ1 _
            rw [q60]
            refine jw_W_n 1 (i' := 28) (ls' := [some (.inr (.inr 103)), some (.inl i)]) (st' := [.inr (.inr 103), .inr (.inl ((jm_sh (jm_mw σ0 0 i) (jm_mw σ0 1 i) (σ0 103 56).toNat).1)), .inr (.inr 103)]) rfl ?_
            refine jw_W_gf rfl rfl rfl ?_
            show jw_W (js_S n) _ md_288 29 [some (.inr (.inr 103)), some (.inl i)] [.inr (.inl (σ1 103 61)), .inr (.inl ((jm_sh (jm_mw σ0 0 i) (jm_mw σ0 1 i) (σ0 103 56).toNat).1)), .inr (.inr 103)] σ1 _
            rw [q61]
            refine jw_W_call (as := [.inr (.inr 103), .inr (.inl ((jm_sh (jm_mw σ0 0 i) (jm_mw σ0 1 i) (σ0 103 56).toNat).1)), .inr (.inl ((jm_sh (jm_mw σ0 0 i) (jm_mw σ0 1 i) (σ0 103 56).toNat).2.1))]) (rest := []) rfl rfl rfl rfl (Nat.le_of_ble_eq_true rfl) (.inr rfl) (jm_addsTurn (u := (jm_sh (jm_mw σ0 0 i) (jm_mw σ0 1 i) (σ0 103 56).toNat).1) (l := (jm_sh (jm_mw σ0 0 i) (jm_mw σ0 1 i) (σ0 103 56).toNat).2.1) (by unfold jn_sm; simp only; omega) (fun y hy => (htp0.2 y hy).1) htp0.1 hL1 (jn_tp_len hcn.2 htp0)) (by omega) ?_ rfl
            rintro r1 σ4 ⟨rfl, hf4, L4, hL4, hso4, hsub4, hin4, hex4⟩
            have hfr4 : jn_f66 σ0 σ4 := ⟨fun c a1 a2 a3 => (hf4.1 c a1 a2 a3).trans (hfr1.1 c a1 a2 a3), fun j hj => (hf4.2 j (by omega)).trans (hfr1.2 j hj)⟩
            have htp4 : jn_tp σ0 L4 := jn_tp_add htp0 i0 (by omega) (by unfold jn_sm; simp only; omega) ((jn_t1_iff (by omega)).mpr ⟨hhs, .inl ⟨⟨by omega, by omega⟩, rfl⟩⟩) hso4 hsub4
            have hlow4 : ∃ y ∈ L4, y.1 * (jm_sh (jm_mw σ0 0 i) (jm_mw σ0 1 i) (σ0 103 56).toNat).2.1 = (jm_sh (jm_mw σ0 0 i) (jm_mw σ0 1 i) (σ0 103 56).toNat).1 * y.2 := hex4
            have q462 : σ4 103 62 = (jm_sh (jm_mw σ0 0 i) (jm_mw σ0 1 i) (σ0 103 56).toNat).2.2.1 := by rw [hf4.2 62 (by omega)]; exact q62
            have q463 : σ4 103 63 = (jm_sh (jm_mw σ0 0 i) (jm_mw σ0 1 i) (σ0 103 56).toNat).2.2.2 := by rw [hf4.2 63 (by omega)]; exact q63
            show jw_W (js_S n) _ md_288 30 [some (.inr (.inr 103)), some (.inl i)] [] σ4 _
            refine jw_W_n 1 (i' := 31) (ls' := [some (.inr (.inr 103)), some (.inl i)]) (st' := [.inr (.inr 103)]) rfl ?_
            refine jw_W_gf rfl rfl rfl ?_
            show jw_W (js_S n) _ md_288 32 [some (.inr (.inr 103)), some (.inl i)] [.inr (.inl (σ4 103 62))] σ4 _
            rw [q462]
            refine jw_W_n 1 (i' := 33) (ls' := [some (.inr (.inr 103)), some (.inl i)]) (st' := [.inr (.inl 0), .inr (.inl ((jm_sh (jm_mw σ0 0 i) (jm_mw σ0 1 i) (σ0 103 56).toNat).2.2.1))]) rfl ?_
            refine jw_W_lc rfl rfl (by unfold jw_rgl; omega) (by unfold jw_rgl; omega) (fun hc9 => ?_) (fun hc9 => ?_)
            · have hc9 : ((jm_sh (jm_mw σ0 0 i) (jm_mw σ0 1 i) (σ0 103 56).toNat).2.2.1) ≤ 0 := hc9
              refine jw_W_n 2 (i' := 5) (ls' := [some (.inr (.inr 103)), some (.inl (i + 1))]) (st' := []) rfl ?_
              refine ih (by omega) hfr4 hL4 (jn_tz_s hz htp4 (fun y hy => hin4 y ((fun y hy => hy) y hy)) (fun u l l0 ht => ?_))
              obtain ⟨hhs2, he⟩ := (jn_t1_iff l0).mp ht
              rcases he with ⟨he1, he2⟩ | ⟨he1, he2⟩
              · obtain ⟨y, hy, ey⟩ := hlow4
                exact ⟨y, hy, jn_fr_tr (by omega) ey he2⟩
              · exfalso
                omega
            · have hc9 : ¬ (((jm_sh (jm_mw σ0 0 i) (jm_mw σ0 1 i) (σ0 103 56).toNat).2.2.1) ≤ 0) := hc9
              refine jw_W_n 1 (i' := 36) (ls' := [some (.inr (.inr 103)), some (.inl i)]) (st' := [.inr (.inr 103)]) rfl ?_
              refine jw_W_gf rfl rfl rfl ?_
              show jw_W (js_S n) _ md_288 37 [some (.inr (.inr 103)), some (.inl i)] [.inr (.inl (σ4 103 62))] σ4 _
              rw [q462]
              refine jw_W_n 1 (i' := 38) (ls' := [some (.inr (.inr 103)), some (.inl i)]) (st' := [.inr (.inr 103), .inr (.inl ((jm_sh (jm_mw σ0 0 i) (jm_mw σ0 1 i) (σ0 103 56).toNat).2.2.1))]) rfl ?_
              refine jw_W_gf rfl rfl rfl ?_
              show jw_W (js_S n) _ md_288 39 [some (.inr (.inr 103)), some (.inl i)] [.inr (.inl (σ4 103 63)), .inr (.inl ((jm_sh (jm_mw σ0 0 i) (jm_mw σ0 1 i) (σ0 103 56).toNat).2.2.1))] σ4 _
              rw [q463]
              refine jw_W_lc rfl rfl (by unfold jw_rgl; omega) (by unfold jw_rgl; omega) (fun hc10 => ?_) (fun hc10 => ?_)
              · have hc10 : ((jm_sh (jm_mw σ0 0 i) (jm_mw σ0 1 i) (σ0 103 56).toNat).2.2.1) ≥ ((jm_sh (jm_mw σ0 0 i) (jm_mw σ0 1 i) (σ0 103 56).toNat).2.2.2) := hc10
                refine jw_W_n 2 (i' := 5) (ls' := [some (.inr (.inr 103)), some (.inl (i + 1))]) (st' := []) rfl ?_
                refine ih (by omega) hfr4 hL4 (jn_tz_s hz htp4 (fun y hy => hin4 y ((fun y hy => hy) y hy)) (fun u l l0 ht => ?_))
                obtain ⟨hhs2, he⟩ := (jn_t1_iff l0).mp ht
                rcases he with ⟨he1, he2⟩ | ⟨he1, he2⟩
                · obtain ⟨y, hy, ey⟩ := hlow4
                  exact ⟨y, hy, jn_fr_tr (by omega) ey he2⟩
                · exfalso
                  omega
              · have hc10 : ¬ (((jm_sh (jm_mw σ0 0 i) (jm_mw σ0 1 i) (σ0 103 56).toNat).2.2.1) ≥ ((jm_sh (jm_mw σ0 0 i) (jm_mw σ0 1 i) (σ0 103 56).toNat).2.2.2)) := hc10
                refine jw_W_n 2 (i' := 43) (ls' := [some (.inr (.inr 103)), some (.inl i)]) (st' := [.inr (.inr 103), .inr (.inr 103)]) rfl ?_
                refine jw_W_gf rfl rfl rfl ?_
                show jw_W (js_S n) _ md_288 44 [some (.inr (.inr 103)), some (.inl i)] [.inr (.inl (σ4 103 62)), .inr (.inr 103)] σ4 _
                rw [q462]
                refine jw_W_n 1 (i' := 45) (ls' := [some (.inr (.inr 103)), some (.inl i)]) (st' := [.inr (.inr 103), .inr (.inl ((jm_sh (jm_mw σ0 0 i) (jm_mw σ0 1 i) (σ0 103 56).toNat).2.2.1)), .inr (.inr 103)]) rfl ?_
                refine jw_W_gf rfl rfl rfl ?_
                show jw_W (js_S n) _ md_288 46 [some (.inr (.inr 103)), some (.inl i)] [.inr (.inl (σ4 103 63)), .inr (.inl ((jm_sh (jm_mw σ0 0 i) (jm_mw σ0 1 i) (σ0 103 56).toNat).2.2.1)), .inr (.inr 103)] σ4 _
                rw [q463]
                refine jw_W_call (as := [.inr (.inr 103), .inr (.inl ((jm_sh (jm_mw σ0 0 i) (jm_mw σ0 1 i) (σ0 103 56).toNat).2.2.1)), .inr (.inl ((jm_sh (jm_mw σ0 0 i) (jm_mw σ0 1 i) (σ0 103 56).toNat).2.2.2))]) (rest := []) rfl rfl rfl rfl (Nat.le_of_ble_eq_true rfl) (.inr rfl) (jm_addsTurn (u := (jm_sh (jm_mw σ0 0 i) (jm_mw σ0 1 i) (σ0 103 56).toNat).2.2.1) (l := (jm_sh (jm_mw σ0 0 i) (jm_mw σ0 1 i) (σ0 103 56).toNat).2.2.2) (by unfold jn_sm; simp only; omega) (fun y hy => (htp4.2 y hy).1) htp4.1 hL4 (jn_tp_len hcn.2 htp4)) (by omega) ?_ rfl
                rintro r1 σ5 ⟨rfl, hf5, L5, hL5, hso5, hsub5, hin5, hex5⟩
                have hfr5 : jn_f66 σ0 σ5 := ⟨fun c a1 a2 a3 => (hf5.1 c a1 a2 a3).trans (hfr4.1 c a1 a2 a3), fun j hj => (hf5.2 j (by omega)).trans (hfr4.2 j hj)⟩
                have htp5 : jn_tp σ0 L5 := jn_tp_add htp4 i0 (by omega) (by unfold jn_sm; simp only; omega) ((jn_t1_iff (by omega)).mpr ⟨hhs, .inr ⟨⟨by omega, by omega⟩, rfl⟩⟩) hso5 hsub5
                have hhigh5 : ∃ y ∈ L5, y.1 * (jm_sh (jm_mw σ0 0 i) (jm_mw σ0 1 i) (σ0 103 56).toNat).2.2.2 = (jm_sh (jm_mw σ0 0 i) (jm_mw σ0 1 i) (σ0 103 56).toNat).2.2.1 * y.2 := hex5
                have hlow5 : ∃ y ∈ L5, y.1 * (jm_sh (jm_mw σ0 0 i) (jm_mw σ0 1 i) (σ0 103 56).toNat).2.1 = (jm_sh (jm_mw σ0 0 i) (jm_mw σ0 1 i) (σ0 103 56).toNat).1 * y.2 := by obtain ⟨y, hy, ey⟩ := hlow4; exact ⟨y, hin5 y hy, ey⟩
                have q562 : σ5 103 62 = (jm_sh (jm_mw σ0 0 i) (jm_mw σ0 1 i) (σ0 103 56).toNat).2.2.1 := by rw [hf5.2 62 (by omega)]; exact q462
                have q563 : σ5 103 63 = (jm_sh (jm_mw σ0 0 i) (jm_mw σ0 1 i) (σ0 103 56).toNat).2.2.2 := by rw [hf5.2 63 (by omega)]; exact q463
                show jw_W (js_S n) _ md_288 47 [some (.inr (.inr 103)), some (.inl i)] [] σ5 _
                refine jw_W_n 2 (i' := 5) (ls' := [some (.inr (.inr 103)), some (.inl (i + 1))]) (st' := []) rfl ?_
                refine ih (by omega) hfr5 hL5 (jn_tz_s hz htp5 (fun y hy => hin5 y ((fun y hy => hin4 y ((fun y hy => hy) y hy)) y hy)) (fun u l l0 ht => ?_))
                obtain ⟨hhs2, he⟩ := (jn_t1_iff l0).mp ht
                rcases he with ⟨he1, he2⟩ | ⟨he1, he2⟩
                · obtain ⟨y, hy, ey⟩ := hlow5
                  exact ⟨y, hy, jn_fr_tr (by omega) ey he2⟩
                · obtain ⟨y, hy, ey⟩ := hhigh5
                  exact ⟨y, hy, jn_fr_tr (by omega) ey he2⟩
theorem jm_laysTurns {n : Nat} {σ : jw_H} {C : List (ge_R × Int)} (hKN : jm_KN σ C) (h2 : σ 103 4 = 2) : jw_T (js_S n) 6 288 [.inr (.inr 103)] σ (fun r σ' => r = none ∧ jn_f66 σ σ' ∧ ∃ L, jn_tw 140 141 103 66 σ' L ∧ jn_tz σ (σ 103 56) L) := by
  refine jw_T_of (D := 5) (M := mm_288) rfl (Nat.le_of_ble_eq_true rfl) (ls0 := [some (.inr (.inr 103)), none]) rfl ?_ (by rintro _ _ ⟨rfl, -⟩; rfl)
  have hcb := (jm_kw_cbd hKN.1).2 σ (jm_fk_rf σ)
  have hcn := hcb.1
  have hPm := hKN.1.1
  have hqq := hPm.1
  have hww := hPm.2.1
  have hkk := hPm.2.2.1
  have hg57 := hKN.2.2.1.1
  have hg58 := hKN.2.2.2.1.1
  refine jw_W_n 2 (i' := 2) (ls' := [some (.inr (.inr 103)), none]) (st' := [.inl 0, .inr (.inr 103)]) rfl ?_
  refine jw_W_pf (a := 0) rfl (by omega) rfl rfl rfl rfl rfl ?_
  refine jw_W_n 2 (i' := 5) (ls' := [some (.inr (.inr 103)), some (.inl 0)]) (st' := []) rfl ?_
  exact jm_lt_loop (D := 5) (by omega) hKN h2 (σ 103 56).toNat (i := 0) (L := []) (by omega) (by omega) ⟨fun c h1 _ _ => jw_up_out _ _ _ h1, fun j hj => jw_up_ne _ (by omega)⟩ ⟨jw_up_eq _ _ _ _, fun k y hy => by cases hy⟩ ⟨List.Pairwise.nil, (fun y hy => by cases hy), fun c u l c0 c1 => by omega⟩
theorem jm_turn {n : Nat} {σ : jw_H} {C : List (ge_R × Int)} (hKN : jm_KN σ C) {t : Int} (ht : jw_rg t) : jw_T (js_S n) 7 289 [.inr (.inr 103), .inl t] σ (fun r σ' => ∃ v, r = some (.inr (.inl v)) ∧ jm_fz σ σ' ∧ jn_tra σ t v) := by
  refine jw_T_of (D := 6) (M := mm_289) rfl (Nat.le_of_ble_eq_true rfl) (ls0 := [some (.inr (.inr 103)), some (.inl t)]) rfl ?_ (by rintro _ _ ⟨_, rfl, -⟩; rfl)
  have hcb := (jm_kw_cbd hKN.1).2 σ (jm_fk_rf σ)
  have hcn := hcb.1
  have hPm := hKN.1.1
  have hqq := hPm.1
  have hww := hPm.2.1
  have hkk := hPm.2.2.1
  have hg57 := hKN.2.2.1.1
  have hg58 := hKN.2.2.2.1.1
  have rht := ht
  unfold jw_rg at rht
  refine jw_W_n 3 (i' := 3) (ls' := [some (.inr (.inr 103)), some (.inl t)]) (st' := [.inl 99, .inl 0, .inl t]) rfl ?_
  refine jw_W_call (as := [.inl t, .inl 0, .inl 99]) (rest := []) rfl rfl rfl rfl (Nat.le_of_ble_eq_true rfl) (.inl rfl) (jm_in (by unfold jw_rg; omega) (by unfold jw_rg; omega) (by unfold jw_rg; omega)) (by omega) ?_ rfl
  rintro r1 σz (⟨rfl, hs, q1⟩ | ⟨rfl, hs, q1⟩)
  · rw [hs]
    show jw_W (js_S n) _ md_289 4 [some (.inr (.inr 103)), some (.inl t)] [.inl 1] σ _
    refine jw_W_if rfl (by unfold jw_rg; omega) (fun hc1 => ?_) (fun hc1 => ?_)
    · clear hc1
      refine jw_W_n 1 (i' := 11) (ls' := [some (.inr (.inr 103)), some (.inl t)]) (st' := [.inr (.inr 103)]) rfl ?_
      refine jw_W_gf rfl rfl rfl ?_
      show jw_W (js_S n) _ md_289 12 [some (.inr (.inr 103)), some (.inl t)] [.inl (σ 103 4)] σ _
      refine jw_W_n 1 (i' := 13) (ls' := [some (.inr (.inr 103)), some (.inl t)]) (st' := [.inl 2, .inl (σ 103 4)]) rfl ?_
      refine jw_W_ic rfl (by unfold jw_rg; omega) (by unfold jw_rg; omega) (fun hc2 => ?_) (fun hc2 => ?_)
      · have hc2 : (σ 103 4) = 2 := hc2
        refine jw_W_n 1 (i' := 17) (ls' := [some (.inr (.inr 103)), some (.inl t)]) (st' := [.inr (.inr 103)]) rfl ?_
        refine jw_W_call (as := [.inr (.inr 103)]) (rest := []) rfl rfl rfl rfl (Nat.le_of_ble_eq_true rfl) (.inr rfl) (jm_laysTurns hKN (by omega)) (by omega) ?_ rfl
        rintro r1 σ1 ⟨rfl, hfr, L, hL, hz⟩
        have hTL := jn_TL_map hz.1 (fun y hy => ⟨(hz.2.1 y hy).1.2.1, (hz.2.1 y hy).2⟩) hz.2.2
        have hlen := jn_tz_len hcn.2 hz
        have hcnt := hL.1
        have hml : (L.map (fun y => jx_fr y.1 y.2)).length = L.length := List.length_map ..
        show jw_W (js_S n) _ md_289 18 [some (.inr (.inr 103)), some (.inl t)] [] σ1 _
        refine jw_W_n 2 (i' := 20) (ls' := [some (.inr (.inr 103)), some (.inl t)]) (st' := [.inl 200, .inl t]) rfl ?_
        refine jw_W_ic rfl (by unfold jw_rg; omega) (by unfold jw_rg; omega) (fun hc3 => ?_) (fun hc3 => ?_)
        · have hc3 : t ≠ 200 := hc3
          refine jw_W_n 2 (i' := 27) (ls' := [some (.inr (.inr 103)), some (.inl t)]) (st' := [.inl 2, .inl t]) rfl ?_
          refine jw_W_idiv rfl (by unfold jw_rg; omega) (by omega) ?_
          rw [jn_dv (by omega) (by omega) (by omega) (by omega)]
          refine jw_W_n 1 (i' := 29) (ls' := [some (.inr (.inr 103)), some (.inl t)]) (st' := [.inr (.inr 103), .inl (t / 2)]) rfl ?_
          refine jw_W_gf rfl rfl rfl ?_
          show jw_W (js_S n) _ md_289 30 [some (.inr (.inr 103)), some (.inl t)] [.inl (σ1 103 66), .inl (t / 2)] σ1 _
          refine jw_W_ic rfl (by unfold jw_rg; omega) (by unfold jw_rg; omega) (fun hc4 => ?_) (fun hc4 => ?_)
          · have hc4 : (t / 2) < (σ1 103 66) := hc4
            refine jw_W_n 1 (i' := 34) (ls' := [some (.inr (.inr 103)), some (.inl t)]) (st' := [.inr (.inr 103)]) rfl ?_
            refine jw_W_gf rfl rfl rfl ?_
            show jw_W (js_S n) _ md_289 35 [some (.inr (.inr 103)), some (.inl t)] [.inr (.inr 140)] σ1 _
            refine jw_W_n 2 (i' := 37) (ls' := [some (.inr (.inr 103)), some (.inl t)]) (st' := [.inl 2, .inl t, .inr (.inr 140)]) rfl ?_
            refine jw_W_idiv rfl (by unfold jw_rg; omega) (by omega) ?_
            rw [jn_dv (by omega) (by omega) (by omega) (by omega)]
            obtain ⟨y, hy, hym, hy1, hy2⟩ := jn_tw_at hL (k := t / 2) (by omega) (by omega)
            refine jw_W_la rfl rfl (by omega) (by omega) (by omega) ?_
            show jw_W (js_S n) _ md_289 39 [some (.inr (.inr 103)), some (.inl t)] [.inr (.inl (σ1 140 (t / 2)))] σ1 _
            rw [hy1]
            refine jw_W_n 1 (i' := 40) (ls' := [some (.inr (.inr 103)), some (.inl t)]) (st' := [.inr (.inr 103), .inr (.inl y.1)]) rfl ?_
            refine jw_W_gf rfl rfl rfl ?_
            show jw_W (js_S n) _ md_289 41 [some (.inr (.inr 103)), some (.inl t)] [.inr (.inr 141), .inr (.inl y.1)] σ1 _
            refine jw_W_n 2 (i' := 43) (ls' := [some (.inr (.inr 103)), some (.inl t)]) (st' := [.inl 2, .inl t, .inr (.inr 141), .inr (.inl y.1)]) rfl ?_
            refine jw_W_idiv rfl (by unfold jw_rg; omega) (by omega) ?_
            rw [jn_dv (by omega) (by omega) (by omega) (by omega)]
            refine jw_W_la rfl rfl (by omega) (by omega) (by omega) ?_
            show jw_W (js_S n) _ md_289 45 [some (.inr (.inr 103)), some (.inl t)] [.inr (.inl (σ1 141 (t / 2))), .inr (.inl y.1)] σ1 _
            rw [hy2]
            have hys := (hz.2.1 y hym).1
            obtain ⟨ys1, ys2⟩ := hys
            refine jw_W_n 2 (i' := 47) (ls' := [some (.inr (.inr 103)), some (.inl t)]) (st' := [.inl 2, .inl t, .inr (.inl y.2), .inr (.inl y.1)]) rfl ?_
            refine jw_W_irem rfl (by unfold jw_rg; omega) (by omega) ?_
            rw [jm_rem (by omega) (by omega) (by omega) (by omega)]
            refine jw_W_call (as := [.inr (.inl y.1), .inr (.inl y.2), .inl (t % 2)]) (rest := []) rfl rfl rfl rfl (Nat.le_of_ble_eq_true rfl) (.inl rfl) (jm_ofFr (by unfold jm_bg; omega) (by omega) (by omega) (by unfold jw_rg; omega)) (by omega) ?_ rfl
            rintro r1 σz ⟨rfl, hs⟩
            rw [hs]
            show jw_W (js_S n) _ md_289 49 [some (.inr (.inr 103)), some (.inl t)] [.inr (.inl (jm_of y.1 y.2 (t % 2)))] σ1 _
            refine jw_W_lr rfl ?_
            refine ⟨_, rfl, jn_f66_z hKN hfr, .inr ⟨by omega, .inr ⟨by omega, _, hTL, .inr (.inr ⟨by omega, jx_fr y.1 y.2, ?_, ?_⟩)⟩⟩⟩
            · rw [List.getElem?_map, hy]
              rfl
            · have ho := jx_fr_of (u := y.1) (l := y.2) (by omega)
              rcases (show t % 2 = 0 ∨ t % 2 = 1 by omega) with h | h
              · rw [h, if_pos rfl]
                exact ho.1.symm
              · rw [h, if_neg (by decide)]
                exact ho.2.symm
          · have hc4 : ¬ ((t / 2) < (σ1 103 66)) := hc4
            refine jw_W_ld2 (z := (-2)) rfl rfl ?_
            refine jw_W_n 1 (i' := 49) (ls' := [some (.inr (.inr 103)), some (.inl t)]) (st' := [.inr (.inl ((-2)))]) rfl ?_
            refine jw_W_lr rfl ?_
            exact ⟨_, rfl, jn_f66_z hKN hfr, .inr ⟨by omega, .inr ⟨by omega, _, hTL, .inr (.inl ⟨by omega, by rw [hml]; omega, rfl⟩)⟩⟩⟩
        · have hc3 : t = 200 := Classical.not_not.mp hc3
          refine jw_W_n 1 (i' := 22) (ls' := [some (.inr (.inr 103)), some (.inl t)]) (st' := [.inr (.inr 103)]) rfl ?_
          refine jw_W_gf rfl rfl rfl ?_
          show jw_W (js_S n) _ md_289 23 [some (.inr (.inr 103)), some (.inl t)] [.inl (σ1 103 66)] σ1 _
          refine jw_W_i2l rfl (by unfold jw_rg; omega) ?_
          refine jw_W_lr rfl ?_
          exact ⟨_, rfl, jn_f66_z hKN hfr, .inr ⟨by omega, .inr ⟨by omega, _, hTL, .inl ⟨by omega, by rw [hml]; exact hcnt⟩⟩⟩⟩
      · have hc2 : ¬ ((σ 103 4) = 2) := hc2
        refine jw_W_ld2 (z := (-3)) rfl rfl ?_
        refine jw_W_lr rfl ?_
        exact ⟨_, rfl, jm_fz_rf hKN, .inr ⟨by omega, .inl ⟨rfl, by omega⟩⟩⟩
    · exact absurd hc1 (show ¬ ¬ ((1 : Int) ≠ 0) by omega)
  · rw [hs]
    show jw_W (js_S n) _ md_289 4 [some (.inr (.inr 103)), some (.inl t)] [.inl 0] σ _
    refine jw_W_if rfl (by unfold jw_rg; omega) (fun hc5 => ?_) (fun hc5 => ?_)
    · exact absurd hc5 (show ¬ ((0 : Int) ≠ 0) by omega)
    · clear hc5
      refine jw_W_n 2 (i' := 7) (ls' := [some (.inr (.inr 103)), some (.inl t)]) (st' := [.inl 200, .inl t]) rfl ?_
      refine jw_W_ic rfl (by unfold jw_rg; omega) (by unfold jw_rg; omega) (fun hc6 => ?_) (fun hc6 => ?_)
      · have hc6 : t = 200 := hc6
        refine jw_W_n 1 (i' := 11) (ls' := [some (.inr (.inr 103)), some (.inl t)]) (st' := [.inr (.inr 103)]) rfl ?_
        refine jw_W_gf rfl rfl rfl ?_
        show jw_W (js_S n) _ md_289 12 [some (.inr (.inr 103)), some (.inl t)] [.inl (σ 103 4)] σ _
        refine jw_W_n 1 (i' := 13) (ls' := [some (.inr (.inr 103)), some (.inl t)]) (st' := [.inl 2, .inl (σ 103 4)]) rfl ?_
        refine jw_W_ic rfl (by unfold jw_rg; omega) (by unfold jw_rg; omega) (fun hc7 => ?_) (fun hc7 => ?_)
        · have hc7 : (σ 103 4) = 2 := hc7
          refine jw_W_n 1 (i' := 17) (ls' := [some (.inr (.inr 103)), some (.inl t)]) (st' := [.inr (.inr 103)]) rfl ?_
          refine jw_W_call (as := [.inr (.inr 103)]) (rest := []) rfl rfl rfl rfl (Nat.le_of_ble_eq_true rfl) (.inr rfl) (jm_laysTurns hKN (by omega)) (by omega) ?_ rfl
          rintro r1 σ1 ⟨rfl, hfr, L, hL, hz⟩
          have hTL := jn_TL_map hz.1 (fun y hy => ⟨(hz.2.1 y hy).1.2.1, (hz.2.1 y hy).2⟩) hz.2.2
          have hlen := jn_tz_len hcn.2 hz
          have hcnt := hL.1
          have hml : (L.map (fun y => jx_fr y.1 y.2)).length = L.length := List.length_map ..
          show jw_W (js_S n) _ md_289 18 [some (.inr (.inr 103)), some (.inl t)] [] σ1 _
          refine jw_W_n 2 (i' := 20) (ls' := [some (.inr (.inr 103)), some (.inl t)]) (st' := [.inl 200, .inl t]) rfl ?_
          refine jw_W_ic rfl (by unfold jw_rg; omega) (by unfold jw_rg; omega) (fun hc8 => ?_) (fun hc8 => ?_)
          · have hc8 : t ≠ 200 := hc8
            refine jw_W_n 2 (i' := 27) (ls' := [some (.inr (.inr 103)), some (.inl t)]) (st' := [.inl 2, .inl t]) rfl ?_
            refine jw_W_idiv rfl (by unfold jw_rg; omega) (by omega) ?_
            rw [jn_dv (by omega) (by omega) (by omega) (by omega)]
            refine jw_W_n 1 (i' := 29) (ls' := [some (.inr (.inr 103)), some (.inl t)]) (st' := [.inr (.inr 103), .inl (t / 2)]) rfl ?_
            refine jw_W_gf rfl rfl rfl ?_
            show jw_W (js_S n) _ md_289 30 [some (.inr (.inr 103)), some (.inl t)] [.inl (σ1 103 66), .inl (t / 2)] σ1 _
            refine jw_W_ic rfl (by unfold jw_rg; omega) (by unfold jw_rg; omega) (fun hc9 => ?_) (fun hc9 => ?_)
            · have hc9 : (t / 2) < (σ1 103 66) := hc9
              refine jw_W_n 1 (i' := 34) (ls' := [some (.inr (.inr 103)), some (.inl t)]) (st' := [.inr (.inr 103)]) rfl ?_
              refine jw_W_gf rfl rfl rfl ?_
              show jw_W (js_S n) _ md_289 35 [some (.inr (.inr 103)), some (.inl t)] [.inr (.inr 140)] σ1 _
              refine jw_W_n 2 (i' := 37) (ls' := [some (.inr (.inr 103)), some (.inl t)]) (st' := [.inl 2, .inl t, .inr (.inr 140)]) rfl ?_
              refine jw_W_idiv rfl (by unfold jw_rg; omega) (by omega) ?_
              rw [jn_dv (by omega) (by omega) (by omega) (by omega)]
              obtain ⟨y, hy, hym, hy1, hy2⟩ := jn_tw_at hL (k := t / 2) (by omega) (by omega)
              refine jw_W_la rfl rfl (by omega) (by omega) (by omega) ?_
              show jw_W (js_S n) _ md_289 39 [some (.inr (.inr 103)), some (.inl t)] [.inr (.inl (σ1 140 (t / 2)))] σ1 _
              rw [hy1]
              refine jw_W_n 1 (i' := 40) (ls' := [some (.inr (.inr 103)), some (.inl t)]) (st' := [.inr (.inr 103), .inr (.inl y.1)]) rfl ?_
              refine jw_W_gf rfl rfl rfl ?_
              show jw_W (js_S n) _ md_289 41 [some (.inr (.inr 103)), some (.inl t)] [.inr (.inr 141), .inr (.inl y.1)] σ1 _
              refine jw_W_n 2 (i' := 43) (ls' := [some (.inr (.inr 103)), some (.inl t)]) (st' := [.inl 2, .inl t, .inr (.inr 141), .inr (.inl y.1)]) rfl ?_
              refine jw_W_idiv rfl (by unfold jw_rg; omega) (by omega) ?_
              rw [jn_dv (by omega) (by omega) (by omega) (by omega)]
              refine jw_W_la rfl rfl (by omega) (by omega) (by omega) ?_
              show jw_W (js_S n) _ md_289 45 [some (.inr (.inr 103)), some (.inl t)] [.inr (.inl (σ1 141 (t / 2))), .inr (.inl y.1)] σ1 _
              rw [hy2]
              have hys := (hz.2.1 y hym).1
              obtain ⟨ys1, ys2⟩ := hys
              refine jw_W_n 2 (i' := 47) (ls' := [some (.inr (.inr 103)), some (.inl t)]) (st' := [.inl 2, .inl t, .inr (.inl y.2), .inr (.inl y.1)]) rfl ?_
              refine jw_W_irem rfl (by unfold jw_rg; omega) (by omega) ?_
              rw [jm_rem (by omega) (by omega) (by omega) (by omega)]
              refine jw_W_call (as := [.inr (.inl y.1), .inr (.inl y.2), .inl (t % 2)]) (rest := []) rfl rfl rfl rfl (Nat.le_of_ble_eq_true rfl) (.inl rfl) (jm_ofFr (by unfold jm_bg; omega) (by omega) (by omega) (by unfold jw_rg; omega)) (by omega) ?_ rfl
              rintro r1 σz ⟨rfl, hs⟩
              rw [hs]
              show jw_W (js_S n) _ md_289 49 [some (.inr (.inr 103)), some (.inl t)] [.inr (.inl (jm_of y.1 y.2 (t % 2)))] σ1 _
              refine jw_W_lr rfl ?_
              refine ⟨_, rfl, jn_f66_z hKN hfr, .inr ⟨by omega, .inr ⟨by omega, _, hTL, .inr (.inr ⟨by omega, jx_fr y.1 y.2, ?_, ?_⟩)⟩⟩⟩
              · rw [List.getElem?_map, hy]
                rfl
              · have ho := jx_fr_of (u := y.1) (l := y.2) (by omega)
                rcases (show t % 2 = 0 ∨ t % 2 = 1 by omega) with h | h
                · rw [h, if_pos rfl]
                  exact ho.1.symm
                · rw [h, if_neg (by decide)]
                  exact ho.2.symm
            · have hc9 : ¬ ((t / 2) < (σ1 103 66)) := hc9
              refine jw_W_ld2 (z := (-2)) rfl rfl ?_
              refine jw_W_n 1 (i' := 49) (ls' := [some (.inr (.inr 103)), some (.inl t)]) (st' := [.inr (.inl ((-2)))]) rfl ?_
              refine jw_W_lr rfl ?_
              exact ⟨_, rfl, jn_f66_z hKN hfr, .inr ⟨by omega, .inr ⟨by omega, _, hTL, .inr (.inl ⟨by omega, by rw [hml]; omega, rfl⟩)⟩⟩⟩
          · have hc8 : t = 200 := Classical.not_not.mp hc8
            refine jw_W_n 1 (i' := 22) (ls' := [some (.inr (.inr 103)), some (.inl t)]) (st' := [.inr (.inr 103)]) rfl ?_
            refine jw_W_gf rfl rfl rfl ?_
            show jw_W (js_S n) _ md_289 23 [some (.inr (.inr 103)), some (.inl t)] [.inl (σ1 103 66)] σ1 _
            refine jw_W_i2l rfl (by unfold jw_rg; omega) ?_
            refine jw_W_lr rfl ?_
            exact ⟨_, rfl, jn_f66_z hKN hfr, .inr ⟨by omega, .inr ⟨by omega, _, hTL, .inl ⟨by omega, by rw [hml]; exact hcnt⟩⟩⟩⟩
        · have hc7 : ¬ ((σ 103 4) = 2) := hc7
          refine jw_W_ld2 (z := (-3)) rfl rfl ?_
          refine jw_W_lr rfl ?_
          exact ⟨_, rfl, jm_fz_rf hKN, .inr ⟨by omega, .inl ⟨rfl, by omega⟩⟩⟩
      · have hc6 : ¬ (t = 200) := hc6
        refine jw_W_ld2 (z := (-1)) rfl rfl ?_
        refine jw_W_lr rfl ?_
        exact ⟨_, rfl, jm_fz_rf hKN, .inl ⟨rfl, by omega⟩⟩

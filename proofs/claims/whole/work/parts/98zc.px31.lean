/-! ===== pieces: class and reference ===== -/
/-- hanging together by efficient edges -/
def jx_cc (σ : jw_H) (a c : Int) : Prop := ∃ k, jx_by σ 138 a k c
theorem jx_cc_rf (σ : jw_H) (a : Int) : jx_cc σ a a := ⟨0, rfl⟩
theorem jx_by_tr {σ : jw_H} {ob : Nat} {a b : Int} {k : Nat} (h : jx_by σ ob a k b) : ∀ {m : Nat} {c : Int}, jx_by σ ob b m c → jx_by σ ob a (k + m) c
  | 0, c, hc => by
    rw [show c = b from hc]
    exact h
  | m + 1, c, hc => by
    rcases hc with hc | ⟨e, h1, h2, h3⟩
    · exact .inl (jx_by_tr h hc)
    · exact .inr ⟨e, jx_by_tr h h1, h2, h3⟩
theorem jx_cc_tr {σ : jw_H} {a b c : Int} (h1 : jx_cc σ a b) (h2 : jx_cc σ b c) : jx_cc σ a c := by
  obtain ⟨k, h1⟩ := h1
  obtain ⟨m, h2⟩ := h2
  exact ⟨k + m, jx_by_tr h1 h2⟩
section CC
variable {σ : jw_H} {C : List (ge_R × Int)}
theorem jx_cc_in (hK : jm_KN σ C) {a c : Int} (a0 : 0 ≤ a) (a1 : a < σ 103 56) (h : jx_cc σ a c) : 0 ≤ c ∧ c < σ 103 56 := by
  obtain ⟨k, h⟩ := h
  exact jx_by_in hK (.inr rfl) a0 a1 h
theorem jx_cc_sy (hK : jm_KN σ C) {a c : Int} (a0 : 0 ≤ a) (a1 : a < σ 103 56) (h : jx_cc σ a c) : jx_cc σ c a := by
  obtain ⟨k, h⟩ := h
  exact ⟨k, jx_by_sy hK (.inr rfl) a0 a1 h⟩
/-- an efficient edge has efficient ends -/
theorem jx_nx_good (hK : jm_KN σ C) {a c : Int} (a0 : 0 ≤ a) (a1 : a < σ 103 56) (c0 : 0 ≤ c) (h : jm_nx σ 138 a c) : jm_good σ a ∧ jm_good σ c := by
  have h2 := (jx_nx2 hK a0 a1 c0).mp h
  have fa := (jm_tg hK a0 a1).2.2.1.1
  have fc := (jm_tg hK c0 h2.1).2.2.1.1
  refine ⟨(jx_good hK a0 a1).mpr (fun hh => h2.2.2.2 (jx_Ef_two fa.1 fc hh)), (jx_good hK c0 h2.1).mpr (fun hh => h2.2.2.2 ?_)⟩
  rw [jm_two_c]
  exact jx_Ef_two fc.1 fa hh
theorem jx_cc_good (hK : jm_KN σ C) {a c : Int} (a0 : 0 ≤ a) (a1 : a < σ 103 56) (h : jx_cc σ a c) (hc : jm_good σ c) : jm_good σ a := by
  obtain ⟨k, h⟩ := h
  induction k generalizing c with
  | zero =>
    rw [show c = a from h] at hc
    exact hc
  | succ k ih =>
    rcases h with h | ⟨b, h1, h2, h3⟩
    · exact ih hc h
    · have hb := jx_by_in hK (.inr rfl) a0 a1 h1
      exact ih (jx_nx_good hK hb.1 hb.2 h3 h2).1 h1
/-- the lowest of a piece -/
def jx_lo (σ : jw_H) (i : Int) : Prop := jm_good σ i ∧ ∀ c, 0 ≤ c → c < i → ¬ jx_cc σ c i
/-- in a piece of one ahead -/
def jx_sn2 (σ : jw_H) (i c : Int) : Prop := ∃ r, 0 ≤ r ∧ r < i ∧ jm_good σ r ∧ jx_cc σ r c
theorem jx_lo_iff (hK : jm_KN σ C) {i : Int} (i1 : i < σ 103 56) : jx_lo σ i ↔ jm_good σ i ∧ ¬ jx_sn2 σ i i := by
  constructor
  · rintro ⟨h1, h2⟩
    exact ⟨h1, fun ⟨r, r0, r1, _, r3⟩ => h2 r r0 r1 r3⟩
  · rintro ⟨h1, h2⟩
    exact ⟨h1, fun c c0 c1 hc => h2 ⟨c, c0, c1, jx_cc_good hK c0 (by omega) hc h1, hc⟩⟩
end CC
/-- seen so far -/
def jx_se2 (σ : jw_H) (i s : Int) : Prop := (0 ≤ s ∧ s ≤ 1048575) ∧ ∀ c : Int, 0 ≤ c → (jb_in s c.toNat ↔ jx_sn2 σ i c)
theorem jx_sn2_bad {σ : jw_H} {i c : Int} (h : ¬ jm_good σ i) : jx_sn2 σ (i + 1) c ↔ jx_sn2 σ i c := by
  constructor
  · rintro ⟨r, r0, r1, r2, r3⟩
    by_cases e : r = i
    · rw [e] at r2
      exact absurd r2 h
    · exact ⟨r, r0, by omega, r2, r3⟩
  · rintro ⟨r, r0, r1, r2, r3⟩
    exact ⟨r, r0, by omega, r2, r3⟩
theorem jx_sn2_old {σ : jw_H} {i c : Int} (h : jx_sn2 σ i i) : jx_sn2 σ (i + 1) c ↔ jx_sn2 σ i c := by
  constructor
  · rintro ⟨r, r0, r1, r2, r3⟩
    by_cases e : r = i
    · rw [e] at r3
      obtain ⟨q, q0, q1, q2, q3⟩ := h
      exact ⟨q, q0, q1, q2, jx_cc_tr q3 r3⟩
    · exact ⟨r, r0, by omega, r2, r3⟩
  · rintro ⟨r, r0, r1, r2, r3⟩
    exact ⟨r, r0, by omega, r2, r3⟩
theorem jx_se2_i {σ : jw_H} {i j s : Int} (h : jx_se2 σ i s) (e : ∀ c, jx_sn2 σ j c ↔ jx_sn2 σ i c) : jx_se2 σ j s := ⟨h.1, fun c c0 => (h.2 c c0).trans (e c).symm⟩
theorem jx_or0 {s : Int} (h : 0 ≤ s ∧ s ≤ 1048575) : jw_or s 0 = s := by
  rw [jb_or h.1 (by omega) (by omega) (by omega)]
  rw [show (0 : Int).toNat = 0 from rfl, Nat.or_zero]
  omega
/-- amid a piece that is told -/
def jx_sg2 (σ : jw_H) (i j s : Int) : Prop := (0 ≤ s ∧ s ≤ 1048575) ∧ ∀ c : Int, 0 ≤ c → (jb_in s c.toNat ↔ jx_sn2 σ i c ∨ (c < j ∧ jx_cc σ i c))
theorem jx_pcs_j {n : Nat} {σ σ0 : jw_H} {N : Int} {D : Nat} {i m : Int} {Q : Option jw_V → jw_H → Prop} (hN : 0 ≤ N ∧ N ≤ 20) (h57 : σ 57 0 = N) (hrg : ∀ c, 0 ≤ c → c < N → -1 ≤ σ 65 c ∧ σ 65 c ≤ 20) (ha : ∀ c, 0 ≤ c → c < N → (0 ≤ σ 65 c ↔ jx_cc σ0 i c)) (hQ : ∀ s, jx_sg2 σ0 i N s → jw_W (js_S n) D md_28 46 [some (.inr (.inr 57)), some (.inl s), some (.inl m), some (.inl i), some (.inl N)] [] σ Q) : ∀ (f : Nat) {j s : Int}, 0 ≤ j → j + f = N → jx_sg2 σ0 i j s → jw_W (js_S n) D md_28 27 [some (.inr (.inr 57)), some (.inl s), some (.inl m), some (.inl i), some (.inl j)] [] σ Q
  | f, j, s, j0, hk, H => by
    have ih : ∀ {s' : Int}, j < N → jx_sg2 σ0 i (j + 1) s' → jw_W (js_S n) D md_28 27 [some (.inr (.inr 57)), some (.inl s'), some (.inl m), some (.inl i), some (.inl (j + 1))] [] σ Q := by
      intro s' h1 h2
      match f, hk with
      | 0, hk => omega
      | f + 1, hk => exact jx_pcs_j hN h57 hrg ha hQ f (by omega) (by omega) h2
    refine jw_W_n 2 (i' := 29) (ls' := [some (.inr (.inr 57)), some (.inl s), some (.inl m), some (.inl i), some (.inl j)]) (st' := [.inr (.inr 57), .inl j]) rfl ?_
    refine jw_W_gf rfl rfl rfl ?_
    show jw_W (js_S n) _ md_28 30 [some (.inr (.inr 57)), some (.inl s), some (.inl m), some (.inl i), some (.inl j)] [.inl (σ 57 0), .inl j] σ _
    refine jw_W_ic rfl (by unfold jw_rg; omega) (by unfold jw_rg; omega) (fun hc1 => ?_) (fun hc1 => ?_)
    · have hc1 : j ≥ (σ 57 0) := hc1
      have hkl : j = N := by omega
      subst hkl
      exact hQ _ H
    · have hc1 : ¬ (j ≥ (σ 57 0)) := hc1
      have haj := ha j j0 (by omega)
      have hrj := hrg j j0 (by omega)
      refine jw_W_n 2 (i' := 33) (ls' := [some (.inr (.inr 57)), some (.inl s), some (.inl m), some (.inl i), some (.inl j)]) (st' := [.inr (.inr 57), .inl s]) rfl ?_
      refine jw_W_gf rfl rfl rfl ?_
      show jw_W (js_S n) _ md_28 34 [some (.inr (.inr 57)), some (.inl s), some (.inl m), some (.inl i), some (.inl j)] [.inr (.inr 65), .inl s] σ _
      refine jw_W_n 1 (i' := 35) (ls' := [some (.inr (.inr 57)), some (.inl s), some (.inl m), some (.inl i), some (.inl j)]) (st' := [.inl j, .inr (.inr 65), .inl s]) rfl ?_
      refine jw_W_ia rfl rfl (by omega) (by omega) (by omega) ?_
      show jw_W (js_S n) _ md_28 36 [some (.inr (.inr 57)), some (.inl s), some (.inl m), some (.inl i), some (.inl j)] [.inl (σ 65 j), .inl s] σ _
      refine jw_W_if rfl (by unfold jw_rg; omega) (fun hc2 => ?_) (fun hc2 => ?_)
      · have hc2 : (σ 65 j) < 0 := hc2
        refine jw_W_n 5 (i' := 27) (ls' := [some (.inr (.inr 57)), some (.inl (jw_or s 0)), some (.inl m), some (.inl i), some (.inl (j + 1))]) (st' := []) rfl ?_
        rw [jx_or0 H.1]
        exact ih (by omega) ⟨H.1, fun c c0 => (H.2 c c0).trans ⟨fun hh => hh.imp id (fun h9 => ⟨by omega, h9.2⟩), fun hh => hh.imp id (fun h9 => ⟨by
          by_cases e : c = j
          · rw [e] at h9
            have := haj.mpr h9.2
            omega
          · omega, h9.2⟩)⟩⟩
      · have hc2 : ¬ ((σ 65 j) < 0) := hc2
        refine jw_W_n 8 (i' := 27) (ls' := [some (.inr (.inr 57)), some (.inl (jw_or s (jw_shl 1 j))), some (.inl m), some (.inl i), some (.inl (j + 1))]) (st' := []) rfl ?_
        obtain ⟨o1, o2⟩ := jm_one_in j0 (show j < 20 by omega)
        exact ih (by omega) ⟨jx_or_bd H.1 o1, fun c c0 => by
          rw [jm_or_in H.1 o1, H.2 c c0, o2]
          constructor
          · rintro ((h9 | h9) | h9)
            · exact .inl h9
            · exact .inr ⟨by omega, h9.2⟩
            · exact .inr ⟨by omega, by rw [show c = j by omega]; exact haj.mp (by omega)⟩
          · rintro (h9 | h9)
            · exact .inl (.inl h9)
            · by_cases e : c = j
              · exact .inr (by omega)
              · exact .inl (.inr ⟨by omega, h9.2⟩)⟩
theorem jx_sn2_new {σ : jw_H} {C : List (ge_R × Int)} (_ : jm_KN σ C) {i : Int} (i0 : 0 ≤ i) (_ : i < σ 103 56) (hg : jm_good σ i) (c : Int) : (jx_sn2 σ i c ∨ (c < σ 103 56 ∧ jx_cc σ i c)) ↔ jx_sn2 σ (i + 1) c := by
  rename_i hK i1
  constructor
  · rintro (⟨r, r0, r1, r2, r3⟩ | ⟨-, h⟩)
    · exact ⟨r, r0, by omega, r2, r3⟩
    · exact ⟨i, i0, by omega, hg, h⟩
  · rintro ⟨r, r0, r1, r2, r3⟩
    by_cases e : r = i
    · rw [e] at r3
      exact .inr ⟨(jx_cc_in hK i0 i1 r3).2, r3⟩
    · exact .inl ⟨r, r0, by omega, r2, r3⟩
theorem jx_pcs_i {n : Nat} {σ0 : jw_H} {o : Nat} {C : List (ge_R × Int)} (hJ0 : jx_KJ n o C σ0) : ∀ (f : Nat) {σ : jw_H} {i s m : Int} {a4 : Option jw_V}, 0 ≤ i → i + f = σ0 103 56 → jx_f65 σ0 σ → m = jx_cn (fun c => jx_lo σ0 c) i.toNat → jx_se2 σ0 i s → jw_W (js_S n) 3 md_28 6 [some (.inr (.inr 57)), some (.inl s), some (.inl m), some (.inl i), a4] [] σ (fun r σ' => r = some (.inl (jx_cn (fun c => jx_lo σ0 c) (σ0 103 56).toNat)) ∧ jx_f65 σ0 σ')
  | f, σ, i, s, m, a4, i0, hk, HF, H, HS => by
    have ih : ∀ {σ' : jw_H} {s' m' : Int} {a4 : Option jw_V}, i < σ0 103 56 → jx_f65 σ0 σ' → m' = jx_cn (fun c => jx_lo σ0 c) (i + 1).toNat → jx_se2 σ0 (i + 1) s' → jw_W (js_S n) 3 md_28 6 [some (.inr (.inr 57)), some (.inl s'), some (.inl m'), some (.inl (i + 1)), a4] [] σ' (fun r σ' => r = some (.inl (jx_cn (fun c => jx_lo σ0 c) (σ0 103 56).toNat)) ∧ jx_f65 σ0 σ') := by
      intro σ' s' m' a4 h1 h2 h3 h4
      match f, hk with
      | 0, hk => omega
      | f + 1, hk => exact jx_pcs_i hJ0 f (by omega) (by omega) h2 h3 h4
    have hKN0 := hJ0.2.1
    have c00 := hJ0.1.2.1.2.1
    have hJ := jx_KJ_65 HF hJ0
    have e56 : σ 103 56 = σ0 103 56 := by rw [HF 103 (by omega)]
    have hgd : jm_good σ i ↔ jm_good σ0 i := by
      unfold jm_good
      rw [HF 103 (by omega)]
    have hI := hJ.1
    have hKN := hJ.2.1
    have hjd := hJ.2.2.2
    obtain ⟨hto, hfo, hp, hP, e0, e1, e2, hPm, hcb, c0, p0, -⟩ := jx_I0_x hI
    have ho := hp.1
    have hq := hP.1
    have hw := hP.2.1
    have hq2 := hP.2.2.1
    have hcn := hcb.1
    refine jw_W_n 2 (i' := 8) (ls' := [some (.inr (.inr 57)), some (.inl s), some (.inl m), some (.inl i), a4]) (st' := [.inr (.inr 57), .inl i]) rfl ?_
    refine jw_W_gf rfl rfl rfl ?_
    show jw_W (js_S n) _ md_28 9 [some (.inr (.inr 57)), some (.inl s), some (.inl m), some (.inl i), a4] [.inl (σ 57 0), .inl i] σ _
    refine jw_W_ic rfl (by unfold jw_rg; omega) (by unfold jw_rg; omega) (fun hc1 => ?_) (fun hc1 => ?_)
    · have hc1 : i ≥ (σ 57 0) := hc1
      refine jw_W_n 1 (i' := 49) (ls' := [some (.inr (.inr 57)), some (.inl s), some (.inl m), some (.inl i), a4]) (st' := [.inl m]) rfl ?_
      refine jw_W_ir rfl ?_
      have hkl : i = σ0 103 56 := by omega
      subst hkl
      exact ⟨by rw [H], HF⟩
    · have hc1 : ¬ (i ≥ (σ 57 0)) := hc1
      refine jw_W_n 2 (i' := 12) (ls' := [some (.inr (.inr 57)), some (.inl s), some (.inl m), some (.inl i), a4]) (st' := [.inl i, .inr (.inr 57)]) rfl ?_
      refine jw_W_call (as := [.inr (.inr 57), .inl i]) (rest := []) rfl rfl rfl rfl (Nat.le_of_ble_eq_true rfl) (.inr rfl) (jx_isEfficient hJ i0 (by omega)) (by omega) ?_ rfl
      rintro r1 σz (⟨rfl, hs, hg⟩ | ⟨rfl, hs, hg⟩)
      · rw [hs]
        have hg : jm_good σ0 i := hgd.mp hg
        show jw_W (js_S n) _ md_28 13 [some (.inr (.inr 57)), some (.inl s), some (.inl m), some (.inl i), a4] [.inl 1] σ _
        refine jw_W_if rfl (by unfold jw_rg; omega) (fun hc2 => ?_) (fun hc2 => ?_)
        · exact absurd hc2 (show ¬ ((1 : Int) = 0) by omega)
        · clear hc2
          obtain ⟨o1, o2⟩ := jm_one_in i0 (show i < 20 by omega)
          have hbz := jx_bitz HS.1 i0 (show i < 20 by omega)
          refine jw_W_n 5 (i' := 19) (ls' := [some (.inr (.inr 57)), some (.inl s), some (.inl m), some (.inl i), a4]) (st' := [.inl (jw_and s (jw_shl 1 i))]) rfl ?_
          refine jw_W_if rfl (by unfold jw_rg; omega) (fun hc3 => ?_) (fun hc3 => ?_)
          · have hc3 : (jw_and s (jw_shl 1 i)) ≠ 0 := hc3
            refine jw_W_n 2 (i' := 6) (ls' := [some (.inr (.inr 57)), some (.inl s), some (.inl m), some (.inl (i + 1)), a4]) (st' := []) rfl ?_
            first
            | exact ih (by omega) HF (jx_cn_no i0 H (fun hh => hg hh.1)) (jx_se2_i HS (fun c => jx_sn2_bad hg))
            | (have hin : jx_sn2 σ0 i i := (HS.2 i i0).mp (Classical.not_not.mp (fun hh => (show ¬ (jw_and s (jw_shl 1 i) = 0) from by assumption) (hbz.2.mpr hh))); exact ih (by omega) HF (jx_cn_no i0 H (fun hh => ((jx_lo_iff hKN0 (by omega)).mp hh).2 hin)) (jx_se2_i HS (fun c => jx_sn2_old hin)))
          · have hc3 : (jw_and s (jw_shl 1 i)) = 0 := Classical.not_not.mp hc3
            have hni : ¬ jx_sn2 σ0 i i := fun hh => hbz.2.mp (by omega) ((HS.2 i i0).mpr hh)
            refine jw_W_n 4 (i' := 24) (ls' := [some (.inr (.inr 57)), some (.inl s), some (.inl (m + 1)), some (.inl i), a4]) (st' := [.inl 2, .inl i, .inr (.inr 57)]) rfl ?_
            refine jw_W_call (as := [.inr (.inr 57), .inl i, .inl 2]) (rest := []) rfl rfl rfl rfl (Nat.le_of_ble_eq_true rfl) (.inr rfl) (jx_walkFrom hJ (ob := 138) (.inr ⟨rfl, rfl⟩) i0 (by omega)) (by omega) ?_ rfl
            rintro r1 σ1 ⟨rfl, hwa⟩
            show jw_W (js_S n) _ md_28 25 [some (.inr (.inr 57)), some (.inl s), some (.inl (m + 1)), some (.inl i), a4] [] σ1 _
            refine jw_W_n 2 (i' := 27) (ls' := [some (.inr (.inr 57)), some (.inl s), some (.inl (m + 1)), some (.inl i), some (.inl 0)]) (st' := []) rfl ?_
            have HF1 : jx_f65 σ0 σ1 := fun c hc => (hwa.1 c hc).trans (HF c hc)
            have hlo := (jx_lo_iff hKN0 (show i < σ0 103 56 by omega)).mpr ⟨hg, hni⟩
            refine jx_pcs_j (σ0 := σ0) (N := σ0 103 56) (by omega) (by rw [HF1 57 (by omega)]; exact c00) (fun c c0 c1 => ?_) (fun c c0 c1 => ?_) (fun s4 H4 => ?_) (σ0 103 56).toNat (j := 0) (by omega) (by omega) ⟨HS.1, fun c c0 => (HS.2 c c0).trans ⟨.inl, fun hh => hh.resolve_right (fun h9 => by omega)⟩⟩
            · have := hwa.2 c c0 (by omega)
              rw [jx_ds_w (HF 138 (by omega))] at this
              rcases this with ⟨d, e1, e2⟩ | ⟨e1, -⟩
              · have := jx_xd_lt hKN0 (.inr rfl) i0 (by omega) e2
                omega
              · omega
            · have := hwa.2 c c0 (by omega)
              rw [jx_ds_w (HF 138 (by omega))] at this
              rcases this with ⟨d, e1, e2⟩ | ⟨e1, e2⟩
              · exact ⟨fun _ => ⟨d, e2.1⟩, fun _ => by omega⟩
              · exact ⟨fun h9 => by omega, fun ⟨k, h9⟩ => absurd h9 (e2 k)⟩
            refine jw_W_n 2 (i' := 6) (ls' := [some (.inr (.inr 57)), some (.inl s4), some (.inl (m + 1)), some (.inl (i + 1)), some (.inl (σ0 103 56))]) (st' := []) rfl ?_
            exact ih (by omega) HF1 (jx_cn_yes i0 H hlo) ⟨H4.1, fun c c0 => (H4.2 c c0).trans (jx_sn2_new hKN0 i0 (by omega) hg c)⟩
      · rw [hs]
        have hg : ¬ jm_good σ0 i := fun hh => hg (hgd.mpr hh)
        show jw_W (js_S n) _ md_28 13 [some (.inr (.inr 57)), some (.inl s), some (.inl m), some (.inl i), a4] [.inl 0] σ _
        refine jw_W_if rfl (by unfold jw_rg; omega) (fun hc4 => ?_) (fun hc4 => ?_)
        · clear hc4
          refine jw_W_n 2 (i' := 6) (ls' := [some (.inr (.inr 57)), some (.inl s), some (.inl m), some (.inl (i + 1)), a4]) (st' := []) rfl ?_
          first
          | exact ih (by omega) HF (jx_cn_no i0 H (fun hh => hg hh.1)) (jx_se2_i HS (fun c => jx_sn2_bad hg))
          | (have hin : jx_sn2 σ0 i i := (HS.2 i i0).mp (Classical.not_not.mp (fun hh => (show ¬ (jw_and s (jw_shl 1 i) = 0) from by assumption) (hbz.2.mpr hh))); exact ih (by omega) HF (jx_cn_no i0 H (fun hh => ((jx_lo_iff hKN0 (by omega)).mp hh).2 hin)) (jx_se2_i HS (fun c => jx_sn2_old hin)))
        · exact absurd hc4 (show ¬ ¬ ((0 : Int) = 0) by omega)
theorem jx_pieces {n : Nat} {σ : jw_H} {o : Nat} {C : List (ge_R × Int)} (hJ : jx_KJ n o C σ)  : jw_T (js_S n) 4 28 [.inr (.inr 57)] σ (fun r σ' => r = some (.inl (jx_cn (fun c => jx_lo σ c) (σ 103 56).toNat)) ∧ jx_f65 σ σ') := by
  refine jw_T_of (D := 3) (M := mm_28) rfl (Nat.le_of_ble_eq_true rfl) (ls0 := [some (.inr (.inr 57)), none, none, none, none]) rfl ?_ (by rintro _ _ ⟨rfl, -⟩; rfl)
  have hI := hJ.1
  have hKN := hJ.2.1
  have hjd := hJ.2.2.2
  obtain ⟨hto, hfo, hp, hP, e0, e1, e2, hPm, hcb, c0, p0, -⟩ := jx_I0_x hI
  have ho := hp.1
  have hq := hP.1
  have hw := hP.2.1
  have hq2 := hP.2.2.1
  have hcn := hcb.1
  refine jw_W_n 6 (i' := 6) (ls' := [some (.inr (.inr 57)), some (.inl 0), some (.inl 0), some (.inl 0), none]) (st' := []) rfl ?_
  exact jx_pcs_i hJ (σ 103 56).toNat (i := 0) (s := 0) (m := 0) (by omega) (by omega) (fun _ _ => rfl) rfl ⟨by omega, fun c c0 => ⟨fun hh => by simp [jb_in] at hh, fun ⟨r, r0, r1, _⟩ => by omega⟩⟩

/-! ===== rounds, reach, far: class and reference ===== -/
/-- a set: those come to by so many edges -/
def jx_se (σ : jw_H) (ob : Nat) (i : Int) (k : Nat) (s : Int) : Prop := (0 ≤ s ∧ s ≤ 1048575) ∧ ∀ c : Int, 0 ≤ c → (jb_in s c.toNat ↔ jx_by σ ob i k c)
/-- amid a round -/
def jx_sg (σ : jw_H) (ob : Nat) (i : Int) (k : Nat) (j : Int) (s : Int) : Prop := (0 ≤ s ∧ s ≤ 1048575) ∧ ∀ c : Int, 0 ≤ c → (jb_in s c.toNat ↔ jx_by σ ob i k c ∨ ∃ b, b < j ∧ jx_by σ ob i k b ∧ jm_nx σ ob b c)
theorem jx_or_bd {s t : Int} (hs : 0 ≤ s ∧ s ≤ 1048575) (ht : 0 ≤ t ∧ t ≤ 1048575) : 0 ≤ jw_or s t ∧ jw_or s t ≤ 1048575 := by
  rw [jb_or hs.1 (by omega) ht.1 (by omega)]
  have : s.toNat ||| t.toNat < 2 ^ 20 := Nat.or_lt_two_pow (by omega) (by omega)
  omega
theorem jx_se_g {σ : jw_H} {C : List (ge_R × Int)} (hK : jm_KN σ C) {ob : Nat} (ho : jx_ob ob) {i : Int} (i0 : 0 ≤ i) (i1 : i < σ 103 56) {k : Nat} {s : Int} (h : jx_se σ ob i k s) : jx_sg σ ob i k 0 s := by
  refine ⟨h.1, fun c c0 => (h.2 c c0).trans ⟨.inl, ?_⟩⟩
  rintro (hh | ⟨b, b1, b2, -⟩)
  · exact hh
  · have := (jx_by_in hK ho i0 i1 b2).1
    omega
theorem jx_sg_s {σ : jw_H} {C : List (ge_R × Int)} (hK : jm_KN σ C) {ob : Nat} (ho : jx_ob ob) {i : Int} (i0 : 0 ≤ i) (i1 : i < σ 103 56) {k : Nat} {s : Int} (h : jx_sg σ ob i k (σ 103 56) s) : jx_se σ ob i (k + 1) s := by
  refine ⟨h.1, fun c c0 => (h.2 c c0).trans ⟨?_, ?_⟩⟩
  · rintro (hh | ⟨b, b1, b2, b3⟩)
    · exact .inl hh
    · exact .inr ⟨b, b2, b3, c0⟩
  · rintro (hh | ⟨b, b1, b2, b3⟩)
    · exact .inl hh
    · exact .inr ⟨b, (jx_by_in hK ho i0 i1 b1).2, b1, b2⟩
theorem jx_sg_no {σ : jw_H} {ob : Nat} {i : Int} {k : Nat} {j s : Int} (h : jx_sg σ ob i k j s) (hn : ¬ jx_by σ ob i k j) : jx_sg σ ob i k (j + 1) s := by
  refine ⟨h.1, fun c c0 => (h.2 c c0).trans ⟨?_, ?_⟩⟩
  · rintro (hh | ⟨b, b1, b2, b3⟩)
    · exact .inl hh
    · exact .inr ⟨b, by omega, b2, b3⟩
  · rintro (hh | ⟨b, b1, b2, b3⟩)
    · exact .inl hh
    · by_cases e : b = j
      · rw [e] at b2
        exact absurd b2 hn
      · exact .inr ⟨b, by omega, b2, b3⟩
theorem jx_sg_yes {σ : jw_H} {ob : Nat} {i : Int} {k : Nat} {j s : Int} (h : jx_sg σ ob i k j s) (hr : 0 ≤ σ ob j ∧ σ ob j ≤ 1048575) (hy : jx_by σ ob i k j) : jx_sg σ ob i k (j + 1) (jw_or s (σ ob j)) := by
  refine ⟨jx_or_bd h.1 hr, fun c c0 => ?_⟩
  rw [jm_or_in h.1 hr c.toNat, h.2 c c0]
  constructor
  · rintro ((hh | ⟨b, b1, b2, b3⟩) | hh)
    · exact .inl hh
    · exact .inr ⟨b, by omega, b2, b3⟩
    · exact .inr ⟨j, by omega, hy, hh⟩
  · rintro (hh | ⟨b, b1, b2, b3⟩)
    · exact .inl (.inl hh)
    · by_cases e : b = j
      · rw [e] at b3
        exact .inr b3
      · exact .inl (.inr ⟨b, by omega, b2, b3⟩)
theorem jx_se_0 {σ : jw_H} {ob : Nat} {i : Int} (i0 : 0 ≤ i) (i1 : i < 20) : jx_se σ ob i 0 (jw_shl 1 i) := by
  obtain ⟨h1, h2⟩ := jm_one_in i0 i1
  refine ⟨h1, fun c c0 => (h2 _).trans ?_⟩
  show _ ↔ c = i
  omega
theorem jx_row_bd {σ : jw_H} {C : List (ge_R × Int)} (hK : jm_KN σ C) {ob : Nat} (ho : jx_ob ob) {j : Int} (j0 : 0 ≤ j) (j1 : j < σ 103 56) : 0 ≤ σ ob j ∧ σ ob j ≤ 1048575 := by
  have hl := hK.1.2.1.1.1
  rcases ho with rfl | rfl
  · exact hK.2.1.1 j j0 (by omega)
  · exact hK.2.1.2 j j0 (by omega)
/-- like sets: nothing more is come to -/
theorem jx_se_stop {σ : jw_H} {ob : Nat} {i : Int} {k : Nat} {s : Int} (h1 : jx_se σ ob i (k + 1) s) (h2 : jx_se σ ob i k s) (hin : ∀ {m : Nat} {c : Int}, jx_by σ ob i m c → 0 ≤ c) {c : Int} (hn : ¬ jx_by σ ob i k c) : ∀ m, ¬ jx_by σ ob i m c := by
  have st : ∀ m c, jx_by σ ob i m c → jx_by σ ob i k c := by
    intro m
    induction m with
    | zero =>
      intro c hc
      exact jx_by_up (show 0 ≤ k by omega) hc
    | succ m ih =>
      intro c hc
      rcases hc with hc | ⟨b, b1, b2, b3⟩
      · exact ih c hc
      · exact (h2.2 c b3).mp ((h1.2 c b3).mpr (.inr ⟨b, ih b b1, b2, b3⟩))
  exact fun m hm => hn (st m c hm)
/-- unlike sets: one was come to just now -/
theorem jx_se_new {σ : jw_H} {ob : Nat} {i : Int} {k : Nat} {s t : Int} (h1 : jx_se σ ob i (k + 1) s) (h2 : jx_se σ ob i k t) (hne : s ≠ t) : ∃ c, jx_xd σ ob i (k + 1) c := by
  refine Classical.byContradiction (fun hn => hne (jx_bits h1.1.1 h2.1.1 (fun b => ?_)))
  have e1 := h1.2 (b : Int) (by omega)
  have e2 := h2.2 (b : Int) (by omega)
  rw [Int.toNat_natCast] at e1 e2
  rw [e1, e2]
  refine ⟨fun hh => ?_, .inl⟩
  refine Classical.byContradiction (fun h3 => hn ⟨(b : Int), hh, fun m hm h4 => h3 (jx_by_up (show m ≤ k by omega) h4)⟩)
theorem jm_rounds137_j {n : Nat} {σ : jw_H} {D : Nat} {Q : Option jw_V → jw_H → Prop} (hD : 1 ≤ D) {C : List (ge_R × Int)} (hKN : jm_KN σ C) {i t w k : Int} (i0 : 0 ≤ i) (i1 : i < σ 103 56) (hw : jx_se σ 137 i k.toNat w) (hQ : ∀ s, jx_sg σ 137 i k.toNat (σ 103 56) s → jw_W (js_S n) D md_313 35 [some (.inr (.inr 103)), some (.inl i), some (.inl t), some (.inr (.inr 137)), some (.inl s), some (.inl w), some (.inl k), some (.inl (σ 103 56))] [] σ Q) : ∀ (f : Nat) {j s : Int}, 0 ≤ j → j + f = σ 103 56 → jx_sg σ 137 i k.toNat j s → jw_W (js_S n) D md_313 19 [some (.inr (.inr 103)), some (.inl i), some (.inl t), some (.inr (.inr 137)), some (.inl s), some (.inl w), some (.inl k), some (.inl j)] [] σ Q
  | f, j, s, j0, hk, H => by
    have ih : ∀ {s' : Int}, j < σ 103 56 → jx_sg σ 137 i k.toNat (j + 1) s' → jw_W (js_S n) D md_313 19 [some (.inr (.inr 103)), some (.inl i), some (.inl t), some (.inr (.inr 137)), some (.inl s'), some (.inl w), some (.inl k), some (.inl (j + 1))] [] σ Q := by
      intro s' h1 h2
      match f, hk with
      | 0, hk => omega
      | f + 1, hk => exact jm_rounds137_j hD hKN i0 i1 hw hQ f (by omega) (by omega) h2
    have hcb := (jm_kw_cbd hKN.1).2 σ (jm_fk_rf σ)
    have hcn := hcb.1
    have hPm := hKN.1.1
    have hqq := hPm.1
    have hww := hPm.2.1
    have hkk := hPm.2.2.1
    have hg57 := hKN.2.2.1.1
    have hg58 := hKN.2.2.2.1.1
    refine jw_W_n 2 (i' := 21) (ls' := [some (.inr (.inr 103)), some (.inl i), some (.inl t), some (.inr (.inr 137)), some (.inl s), some (.inl w), some (.inl k), some (.inl j)]) (st' := [.inr (.inr 103), .inl j]) rfl ?_
    refine jw_W_gf rfl rfl rfl ?_
    show jw_W (js_S n) _ md_313 22 [some (.inr (.inr 103)), some (.inl i), some (.inl t), some (.inr (.inr 137)), some (.inl s), some (.inl w), some (.inl k), some (.inl j)] [.inl (σ 103 56), .inl j] σ _
    refine jw_W_ic rfl (by unfold jw_rg; omega) (by unfold jw_rg; omega) (fun hc1 => ?_) (fun hc1 => ?_)
    · have hc1 : j ≥ (σ 103 56) := hc1
      have hkl : j = σ 103 56 := by omega
      subst hkl
      exact hQ _ H
    · have hc1 : ¬ (j ≥ (σ 103 56)) := hc1
      refine jw_W_n 2 (i' := 25) (ls' := [some (.inr (.inr 103)), some (.inl i), some (.inl t), some (.inr (.inr 137)), some (.inl s), some (.inl w), some (.inl k), some (.inl j)]) (st' := [.inl j, .inl w]) rfl ?_
      refine jw_W_call (as := [.inl w, .inl j]) (rest := []) rfl rfl rfl rfl (Nat.le_of_ble_eq_true rfl) (.inl rfl) (jm_has hw.1.1 (by have := hw.1.2; omega) j0 (by omega)) (by omega) ?_ rfl
      rintro r1 σz (⟨rfl, hs, hin⟩ | ⟨rfl, hs, hin⟩)
      · rw [hs]
        have hby := (hw.2 j j0).mp hin
        show jw_W (js_S n) _ md_313 26 [some (.inr (.inr 103)), some (.inl i), some (.inl t), some (.inr (.inr 137)), some (.inl s), some (.inl w), some (.inl k), some (.inl j)] [.inl 1] σ _
        refine jw_W_if rfl (by unfold jw_rg; omega) (fun hc2 => ?_) (fun hc2 => ?_)
        · exact absurd hc2 (show ¬ ((1 : Int) = 0) by omega)
        · clear hc2
          refine jw_W_n 3 (i' := 30) (ls' := [some (.inr (.inr 103)), some (.inl i), some (.inl t), some (.inr (.inr 137)), some (.inl s), some (.inl w), some (.inl k), some (.inl j)]) (st' := [.inl j, .inr (.inr 137), .inl s]) rfl ?_
          refine jw_W_ia rfl rfl (by omega) (by omega) (by omega) ?_
          show jw_W (js_S n) _ md_313 31 [some (.inr (.inr 103)), some (.inl i), some (.inl t), some (.inr (.inr 137)), some (.inl s), some (.inl w), some (.inl k), some (.inl j)] [.inl (σ 137 j), .inl s] σ _
          refine jw_W_n 4 (i' := 19) (ls' := [some (.inr (.inr 103)), some (.inl i), some (.inl t), some (.inr (.inr 137)), some (.inl (jw_or s (σ 137 j))), some (.inl w), some (.inl k), some (.inl (j + 1))]) (st' := []) rfl ?_
          exact ih (by omega) (jx_sg_yes H (jx_row_bd hKN (.inl rfl) j0 (by omega)) hby)
      · rw [hs]
        have hby : ¬ jx_by σ 137 i k.toNat j := fun hh => hin ((hw.2 j j0).mpr hh)
        show jw_W (js_S n) _ md_313 26 [some (.inr (.inr 103)), some (.inl i), some (.inl t), some (.inr (.inr 137)), some (.inl s), some (.inl w), some (.inl k), some (.inl j)] [.inl 0] σ _
        refine jw_W_if rfl (by unfold jw_rg; omega) (fun hc3 => ?_) (fun hc3 => ?_)
        · clear hc3
          refine jw_W_n 2 (i' := 19) (ls' := [some (.inr (.inr 103)), some (.inl i), some (.inl t), some (.inr (.inr 137)), some (.inl s), some (.inl w), some (.inl k), some (.inl (j + 1))]) (st' := []) rfl ?_
          exact ih (by omega) (jx_sg_no H hby)
        · exact absurd hc3 (show ¬ ¬ ((0 : Int) = 0) by omega)
theorem jm_rounds137_k {n : Nat} {σ : jw_H} {C : List (ge_R × Int)} (hKN : jm_KN σ C) {i t : Int} (i0 : 0 ≤ i) (i1 : i < σ 103 56) (t0 : 0 ≤ t) (t1 : t < σ 103 56) : ∀ (f : Nat) {k s w : Int} {a7 : Option jw_V}, 0 ≤ k → k + f = σ 103 56 + 1 → jx_se σ 137 i k.toNat s → (k = 0 ∧ w = 0 ∨ 1 ≤ k ∧ jx_se σ 137 i (k - 1).toNat w) → (∀ m, m < k.toNat → ¬ jx_by σ 137 i m t) → jw_W (js_S n) 1 md_313 8 [some (.inr (.inr 103)), some (.inl i), some (.inl t), some (.inr (.inr 137)), some (.inl s), some (.inl w), some (.inl k), a7] [] σ (fun r σ' => ∃ v, r = some (.inl v) ∧ σ' = σ ∧ jx_ds σ 137 i t v (-2))
  | f, k, s, w, a7, k0, hk, hS, HW, HM => by
    have ih : ∀ {s' w' : Int} {a7 : Option jw_V}, k < σ 103 56 → jx_se σ 137 i (k + 1).toNat s' → (k + 1 = 0 ∧ w' = 0 ∨ 1 ≤ k + 1 ∧ jx_se σ 137 i (k + 1 - 1).toNat w') → (∀ m, m < (k + 1).toNat → ¬ jx_by σ 137 i m t) → jw_W (js_S n) 1 md_313 8 [some (.inr (.inr 103)), some (.inl i), some (.inl t), some (.inr (.inr 137)), some (.inl s'), some (.inl w'), some (.inl (k + 1)), a7] [] σ (fun r σ' => ∃ v, r = some (.inl v) ∧ σ' = σ ∧ jx_ds σ 137 i t v (-2)) := by
      intro s' w' a7 h1 h2 h3 h4
      match f, hk with
      | 0, hk => omega
      | f + 1, hk => exact jm_rounds137_k hKN i0 i1 t0 t1 f (by omega) (by omega) h2 h3 h4
    have hSb := hS.1
    have hS0 : s ≠ 0 := by
      intro e
      have := (hS.2 i i0).mpr (jx_by_up (Nat.zero_le _) (show jx_by σ 137 i 0 i from rfl))
      rw [e] at this
      simp [jb_in] at this
    have hWb : 0 ≤ w ∧ w ≤ 1048575 := by
      rcases HW with ⟨-, e⟩ | ⟨-, e⟩
      · omega
      · exact e.1
    have hcb := (jm_kw_cbd hKN.1).2 σ (jm_fk_rf σ)
    have hcn := hcb.1
    have hPm := hKN.1.1
    have hqq := hPm.1
    have hww := hPm.2.1
    have hkk := hPm.2.2.1
    have hg57 := hKN.2.2.1.1
    have hg58 := hKN.2.2.2.1.1
    refine jw_W_n 2 (i' := 10) (ls' := [some (.inr (.inr 103)), some (.inl i), some (.inl t), some (.inr (.inr 137)), some (.inl s), some (.inl w), some (.inl k), a7]) (st' := [.inl t, .inl s]) rfl ?_
    refine jw_W_call (as := [.inl s, .inl t]) (rest := []) rfl rfl rfl rfl (Nat.le_of_ble_eq_true rfl) (.inl rfl) (jm_has hS.1.1 (by have := hS.1.2; omega) t0 (by omega)) (by omega) ?_ rfl
    rintro r1 σz (⟨rfl, hs, hin⟩ | ⟨rfl, hs, hin⟩)
    · rw [hs]
      have hby := (hS.2 t t0).mp hin
      show jw_W (js_S n) _ md_313 11 [some (.inr (.inr 103)), some (.inl i), some (.inl t), some (.inr (.inr 137)), some (.inl s), some (.inl w), some (.inl k), a7] [.inl 1] σ _
      refine jw_W_if rfl (by unfold jw_rg; omega) (fun hc1 => ?_) (fun hc1 => ?_)
      · clear hc1
        refine jw_W_n 2 (i' := 42) (ls' := [some (.inr (.inr 103)), some (.inl i), some (.inl t), some (.inr (.inr 137)), some (.inl s), some (.inl w), some (.inl k), a7]) (st' := [.inl t, .inl s]) rfl ?_
        refine jw_W_call (as := [.inl s, .inl t]) (rest := []) rfl rfl rfl rfl (Nat.le_of_ble_eq_true rfl) (.inl rfl) (jm_has hS.1.1 (by have := hS.1.2; omega) t0 (by omega)) (by omega) ?_ rfl
        rintro r1 σz (⟨rfl, hs, hin⟩ | ⟨rfl, hs, hin⟩)
        · rw [hs]
          have hby := (hS.2 t t0).mp hin
          show jw_W (js_S n) _ md_313 43 [some (.inr (.inr 103)), some (.inl i), some (.inl t), some (.inr (.inr 137)), some (.inl s), some (.inl w), some (.inl k), a7] [.inl 1] σ _
          refine jw_W_if rfl (by unfold jw_rg; omega) (fun hc2 => ?_) (fun hc2 => ?_)
          · exact absurd hc2 (show ¬ ((1 : Int) = 0) by omega)
          · clear hc2
            refine jw_W_n 2 (i' := 47) (ls' := [some (.inr (.inr 103)), some (.inl i), some (.inl t), some (.inr (.inr 137)), some (.inl s), some (.inl w), some (.inl k), a7]) (st' := [.inl k]) rfl ?_
            refine jw_W_ir rfl ?_
            exact ⟨k, rfl, rfl, .inl ⟨k.toNat, by omega, by assumption, fun m hm => HM m hm⟩⟩
        · rw [hs]
          have hby : ¬ jx_by σ 137 i k.toNat t := fun hh => hin ((hS.2 t t0).mpr hh)
          show jw_W (js_S n) _ md_313 43 [some (.inr (.inr 103)), some (.inl i), some (.inl t), some (.inr (.inr 137)), some (.inl s), some (.inl w), some (.inl k), a7] [.inl 0] σ _
          refine jw_W_if rfl (by unfold jw_rg; omega) (fun hc3 => ?_) (fun hc3 => ?_)
          · clear hc3
            refine jw_W_n 1 (i' := 47) (ls' := [some (.inr (.inr 103)), some (.inl i), some (.inl t), some (.inr (.inr 137)), some (.inl s), some (.inl w), some (.inl k), a7]) (st' := [.inl ((-2))]) rfl ?_
            refine jw_W_ir rfl ?_
            first
            | exact absurd (by assumption) hby
            | (rcases HW with ⟨e1, e2⟩ | ⟨e1, e2⟩
               · omega
               · refine ⟨-2, rfl, rfl, .inr ⟨rfl, ?_⟩⟩
                 have hws : w = s := by omega
                 rw [hws] at e2
                 have e3 : k.toNat = (k - 1).toNat + 1 := by omega
                 rw [e3] at hS
                 exact jx_se_stop hS e2 (fun hh => (jx_by_in hKN (.inl rfl) i0 i1 hh).1) (HM _ (by omega)))
          · exact absurd hc3 (show ¬ ¬ ((0 : Int) = 0) by omega)
      · exact absurd hc1 (show ¬ ¬ ((1 : Int) ≠ 0) by omega)
    · rw [hs]
      have hby : ¬ jx_by σ 137 i k.toNat t := fun hh => hin ((hS.2 t t0).mpr hh)
      show jw_W (js_S n) _ md_313 11 [some (.inr (.inr 103)), some (.inl i), some (.inl t), some (.inr (.inr 137)), some (.inl s), some (.inl w), some (.inl k), a7] [.inl 0] σ _
      refine jw_W_if rfl (by unfold jw_rg; omega) (fun hc4 => ?_) (fun hc4 => ?_)
      · exact absurd hc4 (show ¬ ((0 : Int) ≠ 0) by omega)
      · clear hc4
        refine jw_W_n 2 (i' := 14) (ls' := [some (.inr (.inr 103)), some (.inl i), some (.inl t), some (.inr (.inr 137)), some (.inl s), some (.inl w), some (.inl k), a7]) (st' := [.inl w, .inl s]) rfl ?_
        refine jw_W_ic rfl (by unfold jw_rg; omega) (by unfold jw_rg; omega) (fun hc5 => ?_) (fun hc5 => ?_)
        · have hc5 : s = w := hc5
          refine jw_W_n 2 (i' := 42) (ls' := [some (.inr (.inr 103)), some (.inl i), some (.inl t), some (.inr (.inr 137)), some (.inl s), some (.inl w), some (.inl k), a7]) (st' := [.inl t, .inl s]) rfl ?_
          refine jw_W_call (as := [.inl s, .inl t]) (rest := []) rfl rfl rfl rfl (Nat.le_of_ble_eq_true rfl) (.inl rfl) (jm_has hS.1.1 (by have := hS.1.2; omega) t0 (by omega)) (by omega) ?_ rfl
          rintro r1 σz (⟨rfl, hs, hin⟩ | ⟨rfl, hs, hin⟩)
          · rw [hs]
            have hby := (hS.2 t t0).mp hin
            show jw_W (js_S n) _ md_313 43 [some (.inr (.inr 103)), some (.inl i), some (.inl t), some (.inr (.inr 137)), some (.inl s), some (.inl w), some (.inl k), a7] [.inl 1] σ _
            refine jw_W_if rfl (by unfold jw_rg; omega) (fun hc6 => ?_) (fun hc6 => ?_)
            · exact absurd hc6 (show ¬ ((1 : Int) = 0) by omega)
            · clear hc6
              refine jw_W_n 2 (i' := 47) (ls' := [some (.inr (.inr 103)), some (.inl i), some (.inl t), some (.inr (.inr 137)), some (.inl s), some (.inl w), some (.inl k), a7]) (st' := [.inl k]) rfl ?_
              refine jw_W_ir rfl ?_
              exact ⟨k, rfl, rfl, .inl ⟨k.toNat, by omega, by assumption, fun m hm => HM m hm⟩⟩
          · rw [hs]
            have hby : ¬ jx_by σ 137 i k.toNat t := fun hh => hin ((hS.2 t t0).mpr hh)
            show jw_W (js_S n) _ md_313 43 [some (.inr (.inr 103)), some (.inl i), some (.inl t), some (.inr (.inr 137)), some (.inl s), some (.inl w), some (.inl k), a7] [.inl 0] σ _
            refine jw_W_if rfl (by unfold jw_rg; omega) (fun hc7 => ?_) (fun hc7 => ?_)
            · clear hc7
              refine jw_W_n 1 (i' := 47) (ls' := [some (.inr (.inr 103)), some (.inl i), some (.inl t), some (.inr (.inr 137)), some (.inl s), some (.inl w), some (.inl k), a7]) (st' := [.inl ((-2))]) rfl ?_
              refine jw_W_ir rfl ?_
              first
              | exact absurd (by assumption) hby
              | (rcases HW with ⟨e1, e2⟩ | ⟨e1, e2⟩
                 · omega
                 · refine ⟨-2, rfl, rfl, .inr ⟨rfl, ?_⟩⟩
                   have hws : w = s := by omega
                   rw [hws] at e2
                   have e3 : k.toNat = (k - 1).toNat + 1 := by omega
                   rw [e3] at hS
                   exact jx_se_stop hS e2 (fun hh => (jx_by_in hKN (.inl rfl) i0 i1 hh).1) (HM _ (by omega)))
            · exact absurd hc7 (show ¬ ¬ ((0 : Int) = 0) by omega)
        · have hc5 : ¬ (s = w) := hc5
          refine jw_W_n 4 (i' := 19) (ls' := [some (.inr (.inr 103)), some (.inl i), some (.inl t), some (.inr (.inr 137)), some (.inl s), some (.inl s), some (.inl k), some (.inl 0)]) (st' := []) rfl ?_
          have hkn : k < σ 103 56 := by
            rcases HW with ⟨e1, e2⟩ | ⟨e1, e2⟩
            · omega
            · have hS2 := hS
              rw [show k.toNat = (k - 1).toNat + 1 by omega] at hS2
              obtain ⟨c, hc⟩ := jx_se_new hS2 e2 (by omega)
              have := jx_xd_lt hKN (.inl rfl) i0 i1 hc
              omega
          refine jm_rounds137_j (D := 1) (by omega) hKN i0 i1 hS (fun s4 H4 => ?_) (σ 103 56).toNat (j := 0) (by omega) (by omega) (jx_se_g hKN (.inl rfl) i0 i1 hS)
          refine jw_W_n 5 (i' := 8) (ls' := [some (.inr (.inr 103)), some (.inl i), some (.inl t), some (.inr (.inr 137)), some (.inl s4), some (.inl s), some (.inl (k + 1)), some (.inl (σ 103 56))]) (st' := []) rfl ?_
          exact ih (by omega) (by rw [show (k + 1).toNat = k.toNat + 1 by omega]; exact jx_sg_s hKN (.inl rfl) i0 i1 H4) (.inr ⟨by omega, by rw [show k + 1 - 1 = k by omega]; exact hS⟩) (fun m hm => by by_cases e : m = k.toNat; (rw [e]; exact hby); exact HM m (by omega))
theorem jm_rounds137 {n : Nat} {σ : jw_H} {C : List (ge_R × Int)} (hKN : jm_KN σ C) {i t : Int} (i0 : 0 ≤ i) (i1 : i < σ 103 56) (t0 : 0 ≤ t) (t1 : t < σ 103 56) : jw_T (js_S n) 2 313 [.inr (.inr 103), .inl i, .inl t, .inr (.inr 137)] σ (fun r σ' => ∃ v, r = some (.inl v) ∧ σ' = σ ∧ jx_ds σ 137 i t v (-2)) := by
  refine jw_T_of (D := 1) (M := mm_313) rfl (Nat.le_of_ble_eq_true rfl) (ls0 := [some (.inr (.inr 103)), some (.inl i), some (.inl t), some (.inr (.inr 137)), none, none, none, none]) rfl ?_ (by rintro _ _ ⟨_, rfl, -⟩; rfl)
  have hcb := (jm_kw_cbd hKN.1).2 σ (jm_fk_rf σ)
  have hcn := hcb.1
  have hPm := hKN.1.1
  have hqq := hPm.1
  have hww := hPm.2.1
  have hkk := hPm.2.2.1
  have hg57 := hKN.2.2.1.1
  have hg58 := hKN.2.2.2.1.1
  refine jw_W_n 8 (i' := 8) (ls' := [some (.inr (.inr 103)), some (.inl i), some (.inl t), some (.inr (.inr 137)), some (.inl (jw_shl 1 i)), some (.inl 0), some (.inl 0), none]) (st' := []) rfl ?_
  exact jm_rounds137_k hKN i0 i1 t0 t1 (σ 103 56 + 1).toNat (k := 0) (w := 0) (by omega) (by omega) (jx_se_0 i0 (by omega)) (.inl ⟨rfl, rfl⟩) (fun m hm => by simp at hm)
theorem jm_rounds138_j {n : Nat} {σ : jw_H} {D : Nat} {Q : Option jw_V → jw_H → Prop} (hD : 1 ≤ D) {C : List (ge_R × Int)} (hKN : jm_KN σ C) {i t w k : Int} (i0 : 0 ≤ i) (i1 : i < σ 103 56) (hw : jx_se σ 138 i k.toNat w) (hQ : ∀ s, jx_sg σ 138 i k.toNat (σ 103 56) s → jw_W (js_S n) D md_313 35 [some (.inr (.inr 103)), some (.inl i), some (.inl t), some (.inr (.inr 138)), some (.inl s), some (.inl w), some (.inl k), some (.inl (σ 103 56))] [] σ Q) : ∀ (f : Nat) {j s : Int}, 0 ≤ j → j + f = σ 103 56 → jx_sg σ 138 i k.toNat j s → jw_W (js_S n) D md_313 19 [some (.inr (.inr 103)), some (.inl i), some (.inl t), some (.inr (.inr 138)), some (.inl s), some (.inl w), some (.inl k), some (.inl j)] [] σ Q
  | f, j, s, j0, hk, H => by
    have ih : ∀ {s' : Int}, j < σ 103 56 → jx_sg σ 138 i k.toNat (j + 1) s' → jw_W (js_S n) D md_313 19 [some (.inr (.inr 103)), some (.inl i), some (.inl t), some (.inr (.inr 138)), some (.inl s'), some (.inl w), some (.inl k), some (.inl (j + 1))] [] σ Q := by
      intro s' h1 h2
      match f, hk with
      | 0, hk => omega
      | f + 1, hk => exact jm_rounds138_j hD hKN i0 i1 hw hQ f (by omega) (by omega) h2
    have hcb := (jm_kw_cbd hKN.1).2 σ (jm_fk_rf σ)
    have hcn := hcb.1
    have hPm := hKN.1.1
    have hqq := hPm.1
    have hww := hPm.2.1
    have hkk := hPm.2.2.1
    have hg57 := hKN.2.2.1.1
    have hg58 := hKN.2.2.2.1.1
    refine jw_W_n 2 (i' := 21) (ls' := [some (.inr (.inr 103)), some (.inl i), some (.inl t), some (.inr (.inr 138)), some (.inl s), some (.inl w), some (.inl k), some (.inl j)]) (st' := [.inr (.inr 103), .inl j]) rfl ?_
    refine jw_W_gf rfl rfl rfl ?_
    show jw_W (js_S n) _ md_313 22 [some (.inr (.inr 103)), some (.inl i), some (.inl t), some (.inr (.inr 138)), some (.inl s), some (.inl w), some (.inl k), some (.inl j)] [.inl (σ 103 56), .inl j] σ _
    refine jw_W_ic rfl (by unfold jw_rg; omega) (by unfold jw_rg; omega) (fun hc1 => ?_) (fun hc1 => ?_)
    · have hc1 : j ≥ (σ 103 56) := hc1
      have hkl : j = σ 103 56 := by omega
      subst hkl
      exact hQ _ H
    · have hc1 : ¬ (j ≥ (σ 103 56)) := hc1
      refine jw_W_n 2 (i' := 25) (ls' := [some (.inr (.inr 103)), some (.inl i), some (.inl t), some (.inr (.inr 138)), some (.inl s), some (.inl w), some (.inl k), some (.inl j)]) (st' := [.inl j, .inl w]) rfl ?_
      refine jw_W_call (as := [.inl w, .inl j]) (rest := []) rfl rfl rfl rfl (Nat.le_of_ble_eq_true rfl) (.inl rfl) (jm_has hw.1.1 (by have := hw.1.2; omega) j0 (by omega)) (by omega) ?_ rfl
      rintro r1 σz (⟨rfl, hs, hin⟩ | ⟨rfl, hs, hin⟩)
      · rw [hs]
        have hby := (hw.2 j j0).mp hin
        show jw_W (js_S n) _ md_313 26 [some (.inr (.inr 103)), some (.inl i), some (.inl t), some (.inr (.inr 138)), some (.inl s), some (.inl w), some (.inl k), some (.inl j)] [.inl 1] σ _
        refine jw_W_if rfl (by unfold jw_rg; omega) (fun hc2 => ?_) (fun hc2 => ?_)
        · exact absurd hc2 (show ¬ ((1 : Int) = 0) by omega)
        · clear hc2
          refine jw_W_n 3 (i' := 30) (ls' := [some (.inr (.inr 103)), some (.inl i), some (.inl t), some (.inr (.inr 138)), some (.inl s), some (.inl w), some (.inl k), some (.inl j)]) (st' := [.inl j, .inr (.inr 138), .inl s]) rfl ?_
          refine jw_W_ia rfl rfl (by omega) (by omega) (by omega) ?_
          show jw_W (js_S n) _ md_313 31 [some (.inr (.inr 103)), some (.inl i), some (.inl t), some (.inr (.inr 138)), some (.inl s), some (.inl w), some (.inl k), some (.inl j)] [.inl (σ 138 j), .inl s] σ _
          refine jw_W_n 4 (i' := 19) (ls' := [some (.inr (.inr 103)), some (.inl i), some (.inl t), some (.inr (.inr 138)), some (.inl (jw_or s (σ 138 j))), some (.inl w), some (.inl k), some (.inl (j + 1))]) (st' := []) rfl ?_
          exact ih (by omega) (jx_sg_yes H (jx_row_bd hKN (.inr rfl) j0 (by omega)) hby)
      · rw [hs]
        have hby : ¬ jx_by σ 138 i k.toNat j := fun hh => hin ((hw.2 j j0).mpr hh)
        show jw_W (js_S n) _ md_313 26 [some (.inr (.inr 103)), some (.inl i), some (.inl t), some (.inr (.inr 138)), some (.inl s), some (.inl w), some (.inl k), some (.inl j)] [.inl 0] σ _
        refine jw_W_if rfl (by unfold jw_rg; omega) (fun hc3 => ?_) (fun hc3 => ?_)
        · clear hc3
          refine jw_W_n 2 (i' := 19) (ls' := [some (.inr (.inr 103)), some (.inl i), some (.inl t), some (.inr (.inr 138)), some (.inl s), some (.inl w), some (.inl k), some (.inl (j + 1))]) (st' := []) rfl ?_
          exact ih (by omega) (jx_sg_no H hby)
        · exact absurd hc3 (show ¬ ¬ ((0 : Int) = 0) by omega)
theorem jm_rounds138_k {n : Nat} {σ : jw_H} {C : List (ge_R × Int)} (hKN : jm_KN σ C) {i t : Int} (i0 : 0 ≤ i) (i1 : i < σ 103 56) (t0 : 0 ≤ t) (t1 : t < σ 103 56) : ∀ (f : Nat) {k s w : Int} {a7 : Option jw_V}, 0 ≤ k → k + f = σ 103 56 + 1 → jx_se σ 138 i k.toNat s → (k = 0 ∧ w = 0 ∨ 1 ≤ k ∧ jx_se σ 138 i (k - 1).toNat w) → (∀ m, m < k.toNat → ¬ jx_by σ 138 i m t) → jw_W (js_S n) 1 md_313 8 [some (.inr (.inr 103)), some (.inl i), some (.inl t), some (.inr (.inr 138)), some (.inl s), some (.inl w), some (.inl k), a7] [] σ (fun r σ' => ∃ v, r = some (.inl v) ∧ σ' = σ ∧ jx_ds σ 138 i t v (-2))
  | f, k, s, w, a7, k0, hk, hS, HW, HM => by
    have ih : ∀ {s' w' : Int} {a7 : Option jw_V}, k < σ 103 56 → jx_se σ 138 i (k + 1).toNat s' → (k + 1 = 0 ∧ w' = 0 ∨ 1 ≤ k + 1 ∧ jx_se σ 138 i (k + 1 - 1).toNat w') → (∀ m, m < (k + 1).toNat → ¬ jx_by σ 138 i m t) → jw_W (js_S n) 1 md_313 8 [some (.inr (.inr 103)), some (.inl i), some (.inl t), some (.inr (.inr 138)), some (.inl s'), some (.inl w'), some (.inl (k + 1)), a7] [] σ (fun r σ' => ∃ v, r = some (.inl v) ∧ σ' = σ ∧ jx_ds σ 138 i t v (-2)) := by
      intro s' w' a7 h1 h2 h3 h4
      match f, hk with
      | 0, hk => omega
      | f + 1, hk => exact jm_rounds138_k hKN i0 i1 t0 t1 f (by omega) (by omega) h2 h3 h4
    have hSb := hS.1
    have hS0 : s ≠ 0 := by
      intro e
      have := (hS.2 i i0).mpr (jx_by_up (Nat.zero_le _) (show jx_by σ 138 i 0 i from rfl))
      rw [e] at this
      simp [jb_in] at this
    have hWb : 0 ≤ w ∧ w ≤ 1048575 := by
      rcases HW with ⟨-, e⟩ | ⟨-, e⟩
      · omega
      · exact e.1
    have hcb := (jm_kw_cbd hKN.1).2 σ (jm_fk_rf σ)
    have hcn := hcb.1
    have hPm := hKN.1.1
    have hqq := hPm.1
    have hww := hPm.2.1
    have hkk := hPm.2.2.1
    have hg57 := hKN.2.2.1.1
    have hg58 := hKN.2.2.2.1.1
    refine jw_W_n 2 (i' := 10) (ls' := [some (.inr (.inr 103)), some (.inl i), some (.inl t), some (.inr (.inr 138)), some (.inl s), some (.inl w), some (.inl k), a7]) (st' := [.inl t, .inl s]) rfl ?_
    refine jw_W_call (as := [.inl s, .inl t]) (rest := []) rfl rfl rfl rfl (Nat.le_of_ble_eq_true rfl) (.inl rfl) (jm_has hS.1.1 (by have := hS.1.2; omega) t0 (by omega)) (by omega) ?_ rfl
    rintro r1 σz (⟨rfl, hs, hin⟩ | ⟨rfl, hs, hin⟩)
    · rw [hs]
      have hby := (hS.2 t t0).mp hin
      show jw_W (js_S n) _ md_313 11 [some (.inr (.inr 103)), some (.inl i), some (.inl t), some (.inr (.inr 138)), some (.inl s), some (.inl w), some (.inl k), a7] [.inl 1] σ _
      refine jw_W_if rfl (by unfold jw_rg; omega) (fun hc1 => ?_) (fun hc1 => ?_)
      · clear hc1
        refine jw_W_n 2 (i' := 42) (ls' := [some (.inr (.inr 103)), some (.inl i), some (.inl t), some (.inr (.inr 138)), some (.inl s), some (.inl w), some (.inl k), a7]) (st' := [.inl t, .inl s]) rfl ?_
        refine jw_W_call (as := [.inl s, .inl t]) (rest := []) rfl rfl rfl rfl (Nat.le_of_ble_eq_true rfl) (.inl rfl) (jm_has hS.1.1 (by have := hS.1.2; omega) t0 (by omega)) (by omega) ?_ rfl
        rintro r1 σz (⟨rfl, hs, hin⟩ | ⟨rfl, hs, hin⟩)
        · rw [hs]
          have hby := (hS.2 t t0).mp hin
          show jw_W (js_S n) _ md_313 43 [some (.inr (.inr 103)), some (.inl i), some (.inl t), some (.inr (.inr 138)), some (.inl s), some (.inl w), some (.inl k), a7] [.inl 1] σ _
          refine jw_W_if rfl (by unfold jw_rg; omega) (fun hc2 => ?_) (fun hc2 => ?_)
          · exact absurd hc2 (show ¬ ((1 : Int) = 0) by omega)
          · clear hc2
            refine jw_W_n 2 (i' := 47) (ls' := [some (.inr (.inr 103)), some (.inl i), some (.inl t), some (.inr (.inr 138)), some (.inl s), some (.inl w), some (.inl k), a7]) (st' := [.inl k]) rfl ?_
            refine jw_W_ir rfl ?_
            exact ⟨k, rfl, rfl, .inl ⟨k.toNat, by omega, by assumption, fun m hm => HM m hm⟩⟩
        · rw [hs]
          have hby : ¬ jx_by σ 138 i k.toNat t := fun hh => hin ((hS.2 t t0).mpr hh)
          show jw_W (js_S n) _ md_313 43 [some (.inr (.inr 103)), some (.inl i), some (.inl t), some (.inr (.inr 138)), some (.inl s), some (.inl w), some (.inl k), a7] [.inl 0] σ _
          refine jw_W_if rfl (by unfold jw_rg; omega) (fun hc3 => ?_) (fun hc3 => ?_)
          · clear hc3
            refine jw_W_n 1 (i' := 47) (ls' := [some (.inr (.inr 103)), some (.inl i), some (.inl t), some (.inr (.inr 138)), some (.inl s), some (.inl w), some (.inl k), a7]) (st' := [.inl ((-2))]) rfl ?_
            refine jw_W_ir rfl ?_
            first
            | exact absurd (by assumption) hby
            | (rcases HW with ⟨e1, e2⟩ | ⟨e1, e2⟩
               · omega
               · refine ⟨-2, rfl, rfl, .inr ⟨rfl, ?_⟩⟩
                 have hws : w = s := by omega
                 rw [hws] at e2
                 have e3 : k.toNat = (k - 1).toNat + 1 := by omega
                 rw [e3] at hS
                 exact jx_se_stop hS e2 (fun hh => (jx_by_in hKN (.inr rfl) i0 i1 hh).1) (HM _ (by omega)))
          · exact absurd hc3 (show ¬ ¬ ((0 : Int) = 0) by omega)
      · exact absurd hc1 (show ¬ ¬ ((1 : Int) ≠ 0) by omega)
    · rw [hs]
      have hby : ¬ jx_by σ 138 i k.toNat t := fun hh => hin ((hS.2 t t0).mpr hh)
      show jw_W (js_S n) _ md_313 11 [some (.inr (.inr 103)), some (.inl i), some (.inl t), some (.inr (.inr 138)), some (.inl s), some (.inl w), some (.inl k), a7] [.inl 0] σ _
      refine jw_W_if rfl (by unfold jw_rg; omega) (fun hc4 => ?_) (fun hc4 => ?_)
      · exact absurd hc4 (show ¬ ((0 : Int) ≠ 0) by omega)
      · clear hc4
        refine jw_W_n 2 (i' := 14) (ls' := [some (.inr (.inr 103)), some (.inl i), some (.inl t), some (.inr (.inr 138)), some (.inl s), some (.inl w), some (.inl k), a7]) (st' := [.inl w, .inl s]) rfl ?_
        refine jw_W_ic rfl (by unfold jw_rg; omega) (by unfold jw_rg; omega) (fun hc5 => ?_) (fun hc5 => ?_)
        · have hc5 : s = w := hc5
          refine jw_W_n 2 (i' := 42) (ls' := [some (.inr (.inr 103)), some (.inl i), some (.inl t), some (.inr (.inr 138)), some (.inl s), some (.inl w), some (.inl k), a7]) (st' := [.inl t, .inl s]) rfl ?_
          refine jw_W_call (as := [.inl s, .inl t]) (rest := []) rfl rfl rfl rfl (Nat.le_of_ble_eq_true rfl) (.inl rfl) (jm_has hS.1.1 (by have := hS.1.2; omega) t0 (by omega)) (by omega) ?_ rfl
          rintro r1 σz (⟨rfl, hs, hin⟩ | ⟨rfl, hs, hin⟩)
          · rw [hs]
            have hby := (hS.2 t t0).mp hin
            show jw_W (js_S n) _ md_313 43 [some (.inr (.inr 103)), some (.inl i), some (.inl t), some (.inr (.inr 138)), some (.inl s), some (.inl w), some (.inl k), a7] [.inl 1] σ _
            refine jw_W_if rfl (by unfold jw_rg; omega) (fun hc6 => ?_) (fun hc6 => ?_)
            · exact absurd hc6 (show ¬ ((1 : Int) = 0) by omega)
            · clear hc6
              refine jw_W_n 2 (i' := 47) (ls' := [some (.inr (.inr 103)), some (.inl i), some (.inl t), some (.inr (.inr 138)), some (.inl s), some (.inl w), some (.inl k), a7]) (st' := [.inl k]) rfl ?_
              refine jw_W_ir rfl ?_
              exact ⟨k, rfl, rfl, .inl ⟨k.toNat, by omega, by assumption, fun m hm => HM m hm⟩⟩
          · rw [hs]
            have hby : ¬ jx_by σ 138 i k.toNat t := fun hh => hin ((hS.2 t t0).mpr hh)
            show jw_W (js_S n) _ md_313 43 [some (.inr (.inr 103)), some (.inl i), some (.inl t), some (.inr (.inr 138)), some (.inl s), some (.inl w), some (.inl k), a7] [.inl 0] σ _
            refine jw_W_if rfl (by unfold jw_rg; omega) (fun hc7 => ?_) (fun hc7 => ?_)
            · clear hc7
              refine jw_W_n 1 (i' := 47) (ls' := [some (.inr (.inr 103)), some (.inl i), some (.inl t), some (.inr (.inr 138)), some (.inl s), some (.inl w), some (.inl k), a7]) (st' := [.inl ((-2))]) rfl ?_
              refine jw_W_ir rfl ?_
              first
              | exact absurd (by assumption) hby
              | (rcases HW with ⟨e1, e2⟩ | ⟨e1, e2⟩
                 · omega
                 · refine ⟨-2, rfl, rfl, .inr ⟨rfl, ?_⟩⟩
                   have hws : w = s := by omega
                   rw [hws] at e2
                   have e3 : k.toNat = (k - 1).toNat + 1 := by omega
                   rw [e3] at hS
                   exact jx_se_stop hS e2 (fun hh => (jx_by_in hKN (.inr rfl) i0 i1 hh).1) (HM _ (by omega)))
            · exact absurd hc7 (show ¬ ¬ ((0 : Int) = 0) by omega)
        · have hc5 : ¬ (s = w) := hc5
          refine jw_W_n 4 (i' := 19) (ls' := [some (.inr (.inr 103)), some (.inl i), some (.inl t), some (.inr (.inr 138)), some (.inl s), some (.inl s), some (.inl k), some (.inl 0)]) (st' := []) rfl ?_
          have hkn : k < σ 103 56 := by
            rcases HW with ⟨e1, e2⟩ | ⟨e1, e2⟩
            · omega
            · have hS2 := hS
              rw [show k.toNat = (k - 1).toNat + 1 by omega] at hS2
              obtain ⟨c, hc⟩ := jx_se_new hS2 e2 (by omega)
              have := jx_xd_lt hKN (.inr rfl) i0 i1 hc
              omega
          refine jm_rounds138_j (D := 1) (by omega) hKN i0 i1 hS (fun s4 H4 => ?_) (σ 103 56).toNat (j := 0) (by omega) (by omega) (jx_se_g hKN (.inr rfl) i0 i1 hS)
          refine jw_W_n 5 (i' := 8) (ls' := [some (.inr (.inr 103)), some (.inl i), some (.inl t), some (.inr (.inr 138)), some (.inl s4), some (.inl s), some (.inl (k + 1)), some (.inl (σ 103 56))]) (st' := []) rfl ?_
          exact ih (by omega) (by rw [show (k + 1).toNat = k.toNat + 1 by omega]; exact jx_sg_s hKN (.inr rfl) i0 i1 H4) (.inr ⟨by omega, by rw [show k + 1 - 1 = k by omega]; exact hS⟩) (fun m hm => by by_cases e : m = k.toNat; (rw [e]; exact hby); exact HM m (by omega))
theorem jm_rounds138 {n : Nat} {σ : jw_H} {C : List (ge_R × Int)} (hKN : jm_KN σ C) {i t : Int} (i0 : 0 ≤ i) (i1 : i < σ 103 56) (t0 : 0 ≤ t) (t1 : t < σ 103 56) : jw_T (js_S n) 2 313 [.inr (.inr 103), .inl i, .inl t, .inr (.inr 138)] σ (fun r σ' => ∃ v, r = some (.inl v) ∧ σ' = σ ∧ jx_ds σ 138 i t v (-2)) := by
  refine jw_T_of (D := 1) (M := mm_313) rfl (Nat.le_of_ble_eq_true rfl) (ls0 := [some (.inr (.inr 103)), some (.inl i), some (.inl t), some (.inr (.inr 138)), none, none, none, none]) rfl ?_ (by rintro _ _ ⟨_, rfl, -⟩; rfl)
  have hcb := (jm_kw_cbd hKN.1).2 σ (jm_fk_rf σ)
  have hcn := hcb.1
  have hPm := hKN.1.1
  have hqq := hPm.1
  have hww := hPm.2.1
  have hkk := hPm.2.2.1
  have hg57 := hKN.2.2.1.1
  have hg58 := hKN.2.2.2.1.1
  refine jw_W_n 8 (i' := 8) (ls' := [some (.inr (.inr 103)), some (.inl i), some (.inl t), some (.inr (.inr 138)), some (.inl (jw_shl 1 i)), some (.inl 0), some (.inl 0), none]) (st' := []) rfl ?_
  exact jm_rounds138_k hKN i0 i1 t0 t1 (σ 103 56 + 1).toNat (k := 0) (w := 0) (by omega) (by omega) (jx_se_0 i0 (by omega)) (.inl ⟨rfl, rfl⟩) (fun m hm => by simp at hm)
/-- the answer of reach -/
def jm_rea (σ : jw_H) (i j b v : Int) : Prop := (v = -1 ∧ ¬ ((0 ≤ i ∧ i < σ 103 56) ∧ (0 ≤ j ∧ j < σ 103 56))) ∨ (((0 ≤ i ∧ i < σ 103 56) ∧ (0 ≤ j ∧ j < σ 103 56)) ∧ jx_ds σ (if b = 0 then 137 else 138) i j v (-2))
theorem jx_ds_uq {σ : jw_H} {ob : Nat} {i c v w no : Int} (h : jx_ds σ ob i c v no) (h' : jx_ds σ ob i c w no) : v = w := by
  rcases h with ⟨d, a, b⟩ | ⟨a, b⟩ <;> rcases h' with ⟨e, c, f⟩ | ⟨c, f⟩
  · rw [a, c, jx_xd_uq b f]
  · exact absurd b.1 (f d)
  · exact absurd f.1 (b e)
  · omega
theorem jm_rea_uq {σ : jw_H} {i j b v w : Int} (h : jm_rea σ i j b v) (h' : jm_rea σ i j b w) : v = w := by
  rcases h with ⟨a, x⟩ | ⟨a, x⟩ <;> rcases h' with ⟨c, y⟩ | ⟨c, y⟩
  · omega
  · exact absurd c x
  · exact absurd a y
  · exact jx_ds_uq x y
theorem jx_by_w {σ σ' : jw_H} {ob : Nat} (h : σ' ob = σ ob) (i : Int) : ∀ (k : Nat) (c : Int), jx_by σ' ob i k c ↔ jx_by σ ob i k c
  | 0, c => Iff.rfl
  | k + 1, c => by
    unfold jx_by jm_nx
    rw [h]
    constructor
    · rintro (a | ⟨b, b1, b2⟩)
      · exact .inl ((jx_by_w h i k c).mp a)
      · exact .inr ⟨b, (jx_by_w h i k b).mp b1, b2⟩
    · rintro (a | ⟨b, b1, b2⟩)
      · exact .inl ((jx_by_w h i k c).mpr a)
      · exact .inr ⟨b, (jx_by_w h i k b).mpr b1, b2⟩
theorem jx_ds_w {σ σ' : jw_H} {ob : Nat} (h : σ' ob = σ ob) (i c v no : Int) : jx_ds σ' ob i c v no ↔ jx_ds σ ob i c v no := by
  unfold jx_ds jx_xd
  simp only [jx_by_w h i]
theorem jm_rea_me {σ0 σ : jw_H} (h : jx_me σ0 σ) (i j b v : Int) : jm_rea σ i j b v ↔ jm_rea σ0 i j b v := by
  unfold jm_rea
  rw [h 103 (by omega)]
  by_cases e : b = 0
  · rw [if_pos e, jx_ds_w (h 137 (by omega))]
  · rw [if_neg e, jx_ds_w (h 138 (by omega))]
theorem jm_reach {n : Nat} {σ : jw_H} {C : List (ge_R × Int)} (hKN : jm_KN σ C) {i j b : Int} (hi : jw_rg i) (hj : jw_rg j) (hb : jw_rg b) : jw_T (js_S n) 3 314 [.inr (.inr 103), .inl i, .inl j, .inl b] σ (fun r σ' => ∃ v, r = some (.inl v) ∧ σ' = σ ∧ jm_rea σ i j b v) := by
  refine jw_T_of (D := 2) (M := mm_314) rfl (Nat.le_of_ble_eq_true rfl) (ls0 := [some (.inr (.inr 103)), some (.inl i), some (.inl j), some (.inl b)]) rfl ?_ (by rintro _ _ ⟨_, rfl, -⟩; rfl)
  have hcb := (jm_kw_cbd hKN.1).2 σ (jm_fk_rf σ)
  have hcn := hcb.1
  have hPm := hKN.1.1
  have hqq := hPm.1
  have hww := hPm.2.1
  have hkk := hPm.2.2.1
  have hg57 := hKN.2.2.1.1
  have hg58 := hKN.2.2.2.1.1
  have rhi := hi
  unfold jw_rg at rhi
  have rhj := hj
  unfold jw_rg at rhj
  have rhb := hb
  unfold jw_rg at rhb
  refine jw_W_n 2 (i' := 2) (ls' := [some (.inr (.inr 103)), some (.inl i), some (.inl j), some (.inl b)]) (st' := [.inl i, .inr (.inr 103)]) rfl ?_
  refine jw_W_call (as := [.inr (.inr 103), .inl i]) (rest := []) rfl rfl rfl rfl (Nat.le_of_ble_eq_true rfl) (.inr rfl) (jm_isCorner hcb hi) (by omega) ?_ rfl
  rintro r1 σz (⟨rfl, hs, q1⟩ | ⟨rfl, hs, q1⟩)
  · rw [hs]
    show jw_W (js_S n) _ md_314 3 [some (.inr (.inr 103)), some (.inl i), some (.inl j), some (.inl b)] [.inl 1] σ _
    refine jw_W_if rfl (by unfold jw_rg; omega) (fun hc1 => ?_) (fun hc1 => ?_)
    · exact absurd hc1 (show ¬ ((1 : Int) = 0) by omega)
    · clear hc1
      refine jw_W_n 2 (i' := 6) (ls' := [some (.inr (.inr 103)), some (.inl i), some (.inl j), some (.inl b)]) (st' := [.inl j, .inr (.inr 103)]) rfl ?_
      refine jw_W_call (as := [.inr (.inr 103), .inl j]) (rest := []) rfl rfl rfl rfl (Nat.le_of_ble_eq_true rfl) (.inr rfl) (jm_isCorner hcb hj) (by omega) ?_ rfl
      rintro r1 σz (⟨rfl, hs, q2⟩ | ⟨rfl, hs, q2⟩)
      · rw [hs]
        show jw_W (js_S n) _ md_314 7 [some (.inr (.inr 103)), some (.inl i), some (.inl j), some (.inl b)] [.inl 1] σ _
        refine jw_W_if rfl (by unfold jw_rg; omega) (fun hc2 => ?_) (fun hc2 => ?_)
        · exact absurd hc2 (show ¬ ((1 : Int) = 0) by omega)
        · clear hc2
          refine jw_W_n 4 (i' := 12) (ls' := [some (.inr (.inr 103)), some (.inl i), some (.inl j), some (.inl b)]) (st' := [.inl b, .inl j, .inl i, .inr (.inr 103)]) rfl ?_
          refine jw_W_if rfl (by unfold jw_rg; omega) (fun hc3 => ?_) (fun hc3 => ?_)
          · have hc3 : b = 0 := hc3
            refine jw_W_n 1 (i' := 17) (ls' := [some (.inr (.inr 103)), some (.inl i), some (.inl j), some (.inl b)]) (st' := [.inr (.inr 103), .inl j, .inl i, .inr (.inr 103)]) rfl ?_
            refine jw_W_gf rfl rfl rfl ?_
            show jw_W (js_S n) _ md_314 18 [some (.inr (.inr 103)), some (.inl i), some (.inl j), some (.inl b)] [.inr (.inr 137), .inl j, .inl i, .inr (.inr 103)] σ _
            refine jw_W_call (as := [.inr (.inr 103), .inl i, .inl j, .inr (.inr 137)]) (rest := []) rfl rfl rfl rfl (Nat.le_of_ble_eq_true rfl) (.inr rfl) (jm_rounds137 hKN (by omega) (by omega) (by omega) (by omega)) (by omega) ?_ rfl
            rintro r1 σz ⟨v, rfl, hs, hv⟩
            rw [hs]
            show jw_W (js_S n) _ md_314 19 [some (.inr (.inr 103)), some (.inl i), some (.inl j), some (.inl b)] [.inl v] σ _
            refine jw_W_n 1 (i' := 21) (ls' := [some (.inr (.inr 103)), some (.inl i), some (.inl j), some (.inl b)]) (st' := [.inl v]) rfl ?_
            refine jw_W_ir rfl ?_
            exact ⟨_, rfl, rfl, .inr ⟨by omega, by first | (rw [if_pos (by omega)]; exact hv) | (rw [if_neg (by omega)]; exact hv)⟩⟩
          · have hc3 : ¬ (b = 0) := hc3
            refine jw_W_n 1 (i' := 14) (ls' := [some (.inr (.inr 103)), some (.inl i), some (.inl j), some (.inl b)]) (st' := [.inr (.inr 103), .inl j, .inl i, .inr (.inr 103)]) rfl ?_
            refine jw_W_gf rfl rfl rfl ?_
            show jw_W (js_S n) _ md_314 15 [some (.inr (.inr 103)), some (.inl i), some (.inl j), some (.inl b)] [.inr (.inr 138), .inl j, .inl i, .inr (.inr 103)] σ _
            refine jw_W_n 1 (i' := 18) (ls' := [some (.inr (.inr 103)), some (.inl i), some (.inl j), some (.inl b)]) (st' := [.inr (.inr 138), .inl j, .inl i, .inr (.inr 103)]) rfl ?_
            refine jw_W_call (as := [.inr (.inr 103), .inl i, .inl j, .inr (.inr 138)]) (rest := []) rfl rfl rfl rfl (Nat.le_of_ble_eq_true rfl) (.inr rfl) (jm_rounds138 hKN (by omega) (by omega) (by omega) (by omega)) (by omega) ?_ rfl
            rintro r1 σz ⟨v, rfl, hs, hv⟩
            rw [hs]
            show jw_W (js_S n) _ md_314 19 [some (.inr (.inr 103)), some (.inl i), some (.inl j), some (.inl b)] [.inl v] σ _
            refine jw_W_n 1 (i' := 21) (ls' := [some (.inr (.inr 103)), some (.inl i), some (.inl j), some (.inl b)]) (st' := [.inl v]) rfl ?_
            refine jw_W_ir rfl ?_
            exact ⟨_, rfl, rfl, .inr ⟨by omega, by first | (rw [if_pos (by omega)]; exact hv) | (rw [if_neg (by omega)]; exact hv)⟩⟩
      · rw [hs]
        show jw_W (js_S n) _ md_314 7 [some (.inr (.inr 103)), some (.inl i), some (.inl j), some (.inl b)] [.inl 0] σ _
        refine jw_W_if rfl (by unfold jw_rg; omega) (fun hc4 => ?_) (fun hc4 => ?_)
        · clear hc4
          refine jw_W_n 1 (i' := 21) (ls' := [some (.inr (.inr 103)), some (.inl i), some (.inl j), some (.inl b)]) (st' := [.inl ((-1))]) rfl ?_
          refine jw_W_ir rfl ?_
          exact ⟨_, rfl, rfl, .inl ⟨rfl, by omega⟩⟩
        · exact absurd hc4 (show ¬ ¬ ((0 : Int) = 0) by omega)
  · rw [hs]
    show jw_W (js_S n) _ md_314 3 [some (.inr (.inr 103)), some (.inl i), some (.inl j), some (.inl b)] [.inl 0] σ _
    refine jw_W_if rfl (by unfold jw_rg; omega) (fun hc5 => ?_) (fun hc5 => ?_)
    · clear hc5
      refine jw_W_n 1 (i' := 21) (ls' := [some (.inr (.inr 103)), some (.inl i), some (.inl j), some (.inl b)]) (st' := [.inl ((-1))]) rfl ?_
      refine jw_W_ir rfl ?_
      exact ⟨_, rfl, rfl, .inl ⟨rfl, by omega⟩⟩
    · exact absurd hc5 (show ¬ ¬ ((0 : Int) = 0) by omega)
theorem jx_ds_rg {σ0 σ : jw_H} {C : List (ge_R × Int)} (h : σ 103 = σ0 103) (_ : jm_KN σ C) (hK : jm_KN σ0 C) {ob : Nat} {i c v : Int} (i0 : 0 ≤ i) (i1 : i < σ0 103 56) (ho : jx_ob ob) (hd : jx_ds σ0 ob i c v (-1)) : -1 ≤ v ∧ v ≤ 20 := by
  have hcb := (jm_kw_cbd hK.1).2 σ0 (jm_fk_rf σ0)
  have hn := hcb.1
  rcases hd with ⟨d, e, hx⟩ | ⟨e, -⟩
  · have := jx_xd_lt hK ho i0 i1 hx
    omega
  · omega
theorem jx_reach {n : Nat} {σ : jw_H} {o : Nat} {C : List (ge_R × Int)} (hK : jx_K n o C σ) {i j b : Int} (hi : jw_rg i) (hj : jw_rg j) (hb : jw_rg b) : jw_T (js_S n) 8 145 [.inr (.inr 13), .inl i, .inl j, .inl b] σ (fun r σ' => ∃ v, r = some (.inl v) ∧ jx_fx σ σ' ∧ jx_jj σ' ∧ jm_rea σ i j b v) := by
  refine jw_T_of (D := 7) (M := mm_145) rfl (Nat.le_of_ble_eq_true rfl) (ls0 := [some (.inr (.inr 13)), some (.inl i), some (.inl j), some (.inl b)]) rfl ?_ (by rintro _ _ ⟨_, rfl, -⟩; rfl)
  have hI := hK.1
  obtain ⟨hto, hfo, hp, hP, e0, e1, e2, hPm, hcb, c0, p0, -⟩ := jx_I0_x hI
  have ho := hp.1
  have hq := hP.1
  have hw := hP.2.1
  have hq2 := hP.2.2.1
  have hcn := hcb.1
  have rhi := hi
  unfold jw_rg at rhi
  have rhj := hj
  unfold jw_rg at rhj
  have rhb := hb
  unfold jw_rg at rhb
  refine jw_W_n 2 (i' := 2) (ls' := [some (.inr (.inr 13)), some (.inl i), some (.inl j), some (.inl b)]) (st' := [.inl i, .inr (.inr 13)]) rfl ?_
  refine jw_W_call (as := [.inr (.inr 13), .inl i]) (rest := []) rfl rfl rfl rfl (Nat.le_of_ble_eq_true rfl) (.inr rfl) (jx_isCorner hK hi) (by omega) ?_ rfl
  rintro r1 σz (⟨rfl, hs, q3⟩ | ⟨rfl, hs, q3⟩)
  · rw [hs]
    show jw_W (js_S n) _ md_145 3 [some (.inr (.inr 13)), some (.inl i), some (.inl j), some (.inl b)] [.inl 1] σ _
    refine jw_W_if rfl (by unfold jw_rg; omega) (fun hc1 => ?_) (fun hc1 => ?_)
    · exact absurd hc1 (show ¬ ((1 : Int) = 0) by omega)
    · clear hc1
      refine jw_W_n 2 (i' := 6) (ls' := [some (.inr (.inr 13)), some (.inl i), some (.inl j), some (.inl b)]) (st' := [.inl j, .inr (.inr 13)]) rfl ?_
      refine jw_W_call (as := [.inr (.inr 13), .inl j]) (rest := []) rfl rfl rfl rfl (Nat.le_of_ble_eq_true rfl) (.inr rfl) (jx_isCorner hK hj) (by omega) ?_ rfl
      rintro r1 σz (⟨rfl, hs, q4⟩ | ⟨rfl, hs, q4⟩)
      · rw [hs]
        show jw_W (js_S n) _ md_145 7 [some (.inr (.inr 13)), some (.inl i), some (.inl j), some (.inl b)] [.inl 1] σ _
        refine jw_W_if rfl (by unfold jw_rg; omega) (fun hc2 => ?_) (fun hc2 => ?_)
        · clear hc2
          refine jw_W_n 1 (i' := 11) (ls' := [some (.inr (.inr 13)), some (.inl i), some (.inl j), some (.inl b)]) (st' := [.inr (.inr 13)]) rfl ?_
          refine jw_W_gf rfl rfl rfl ?_
          show jw_W (js_S n) _ md_145 12 [some (.inr (.inr 13)), some (.inl i), some (.inl j), some (.inl b)] [.inr (.inr 57)] σ _
          refine jw_W_call (as := [.inr (.inr 57)]) (rest := []) rfl rfl rfl rfl (Nat.le_of_ble_eq_true rfl) (.inr rfl) (jx_judgeK hK) (by omega) ?_ rfl
          rintro r1 σ1 ⟨rfl, hf1, hK1⟩
          have hI1 := hK1.1
          have hfo1 := hI1.2.1.1
          have hto1 : (σ1 13 2).toNat = o := by have := hI1.1.1; omega
          have hKN1 := hK1.2.1
          have hjd1 := hK1.2.2.2
          have hme1 := jx_fx_me hf1
          have e1031 : σ1 103 = σ 103 := hme1 103 (by omega)
          have e5701 : σ1 57 0 = σ 103 56 := by rw [← e1031]; exact hI1.2.1.2.1
          have hI1x := jx_I0_x hI1
          have hPm1 := hI1x.2.2.2.2.2.2.2.1
          have hcb1 := hI1x.2.2.2.2.2.2.2.2.1
          have e0561 : σ1 103 56 = σ 103 56 := by rw [e1031]
          have e0031 : σ1 103 3 = σ 103 3 := by rw [e1031]
          have e0041 : σ1 103 4 = σ 103 4 := by rw [e1031]
          have e0051 : σ1 103 5 = σ 103 5 := by rw [e1031]
          show jw_W (js_S n) _ md_145 13 [some (.inr (.inr 13)), some (.inl i), some (.inl j), some (.inl b)] [] σ1 _
          refine jw_W_n 1 (i' := 14) (ls' := [some (.inr (.inr 13)), some (.inl i), some (.inl j), some (.inl b)]) (st' := [.inr (.inr 13)]) rfl ?_
          refine jw_W_gf rfl rfl rfl ?_
          show jw_W (js_S n) _ md_145 15 [some (.inr (.inr 13)), some (.inl i), some (.inl j), some (.inl b)] [.inr (.inr 57)] σ1 _
          refine jw_W_n 2 (i' := 17) (ls' := [some (.inr (.inr 13)), some (.inl i), some (.inl j), some (.inl b)]) (st' := [.inl b, .inl i, .inr (.inr 57)]) rfl ?_
          refine jw_W_if rfl (by unfold jw_rg; omega) (fun hc3 => ?_) (fun hc3 => ?_)
          · have hc3 : b = 0 := hc3
            refine jw_W_n 1 (i' := 21) (ls' := [some (.inr (.inr 13)), some (.inl i), some (.inl j), some (.inl b)]) (st' := [.inl 1, .inl i, .inr (.inr 57)]) rfl ?_
            refine jw_W_call (as := [.inr (.inr 57), .inl i, .inl 1]) (rest := []) rfl rfl rfl rfl (Nat.le_of_ble_eq_true rfl) (.inr rfl) (jx_walkFrom hK1 (ob := 137) (.inl ⟨rfl, rfl⟩) (by omega) (by omega)) (by omega) ?_ rfl
            rintro r1 σ2 ⟨rfl, hwa⟩
            have hf2 := jx_fx_tr hf1 (jx_fy_x (jx_f65_y hwa.1))
            have hK2 := jx_KJ_K (jx_KJ_65 hwa.1 hK1)
            have hds := hwa.2 j (by omega) (by omega)
            rw [jx_ds_w (hme1 137 (by omega))] at hds
            have hrv := jx_ds_rg (hme1 103 (by omega)) hKN1 hK.2.1 (by omega) (by omega) (.inl rfl) hds
            show jw_W (js_S n) _ md_145 22 [some (.inr (.inr 13)), some (.inl i), some (.inl j), some (.inl b)] [] σ2 _
            refine jw_W_n 1 (i' := 23) (ls' := [some (.inr (.inr 13)), some (.inl i), some (.inl j), some (.inl b)]) (st' := [.inr (.inr 13)]) rfl ?_
            refine jw_W_gf rfl rfl rfl ?_
            show jw_W (js_S n) _ md_145 24 [some (.inr (.inr 13)), some (.inl i), some (.inl j), some (.inl b)] [.inr (.inr 57)] σ2 _
            refine jw_W_gf rfl rfl rfl ?_
            show jw_W (js_S n) _ md_145 25 [some (.inr (.inr 13)), some (.inl i), some (.inl j), some (.inl b)] [.inr (.inr 65)] σ2 _
            refine jw_W_n 1 (i' := 26) (ls' := [some (.inr (.inr 13)), some (.inl i), some (.inl j), some (.inl b)]) (st' := [.inl j, .inr (.inr 65)]) rfl ?_
            refine jw_W_ia rfl rfl (by omega) (by omega) (by omega) ?_
            show jw_W (js_S n) _ md_145 27 [some (.inr (.inr 13)), some (.inl i), some (.inl j), some (.inl b)] [.inl (σ2 65 j)] σ2 _
            refine jw_W_if rfl (by unfold jw_rg; omega) (fun hc4 => ?_) (fun hc4 => ?_)
            · have hc4 : (σ2 65 j) ≥ 0 := hc4
              refine jw_W_n 1 (i' := 31) (ls' := [some (.inr (.inr 13)), some (.inl i), some (.inl j), some (.inl b)]) (st' := [.inr (.inr 13)]) rfl ?_
              refine jw_W_gf rfl rfl rfl ?_
              show jw_W (js_S n) _ md_145 32 [some (.inr (.inr 13)), some (.inl i), some (.inl j), some (.inl b)] [.inr (.inr 57)] σ2 _
              refine jw_W_gf rfl rfl rfl ?_
              show jw_W (js_S n) _ md_145 33 [some (.inr (.inr 13)), some (.inl i), some (.inl j), some (.inl b)] [.inr (.inr 65)] σ2 _
              refine jw_W_n 1 (i' := 34) (ls' := [some (.inr (.inr 13)), some (.inl i), some (.inl j), some (.inl b)]) (st' := [.inl j, .inr (.inr 65)]) rfl ?_
              refine jw_W_ia rfl rfl (by omega) (by omega) (by omega) ?_
              show jw_W (js_S n) _ md_145 35 [some (.inr (.inr 13)), some (.inl i), some (.inl j), some (.inl b)] [.inl (σ2 65 j)] σ2 _
              refine jw_W_ir rfl ?_
              refine ⟨_, rfl, hf2, hK2.2.2, .inr ⟨by omega, ?_⟩⟩
              first | rw [if_pos (by omega)] | rw [if_neg (by omega)]
              rcases hds with hd | ⟨e, -⟩
              · exact .inl hd
              · omega
            · have hc4 : ¬ ((σ2 65 j) ≥ 0) := hc4
              refine jw_W_n 2 (i' := 35) (ls' := [some (.inr (.inr 13)), some (.inl i), some (.inl j), some (.inl b)]) (st' := [.inl ((-2))]) rfl ?_
              refine jw_W_ir rfl ?_
              refine ⟨_, rfl, hf2, hK2.2.2, .inr ⟨by omega, ?_⟩⟩
              first | rw [if_pos (by omega)] | rw [if_neg (by omega)]
              rcases hds with ⟨d, e, -⟩ | ⟨-, hno⟩
              · omega
              · exact .inr ⟨rfl, hno⟩
          · have hc3 : ¬ (b = 0) := hc3
            refine jw_W_n 2 (i' := 21) (ls' := [some (.inr (.inr 13)), some (.inl i), some (.inl j), some (.inl b)]) (st' := [.inl 2, .inl i, .inr (.inr 57)]) rfl ?_
            refine jw_W_call (as := [.inr (.inr 57), .inl i, .inl 2]) (rest := []) rfl rfl rfl rfl (Nat.le_of_ble_eq_true rfl) (.inr rfl) (jx_walkFrom hK1 (ob := 138) (.inr ⟨rfl, rfl⟩) (by omega) (by omega)) (by omega) ?_ rfl
            rintro r1 σ2 ⟨rfl, hwa⟩
            have hf2 := jx_fx_tr hf1 (jx_fy_x (jx_f65_y hwa.1))
            have hK2 := jx_KJ_K (jx_KJ_65 hwa.1 hK1)
            have hds := hwa.2 j (by omega) (by omega)
            rw [jx_ds_w (hme1 138 (by omega))] at hds
            have hrv := jx_ds_rg (hme1 103 (by omega)) hKN1 hK.2.1 (by omega) (by omega) (.inr rfl) hds
            show jw_W (js_S n) _ md_145 22 [some (.inr (.inr 13)), some (.inl i), some (.inl j), some (.inl b)] [] σ2 _
            refine jw_W_n 1 (i' := 23) (ls' := [some (.inr (.inr 13)), some (.inl i), some (.inl j), some (.inl b)]) (st' := [.inr (.inr 13)]) rfl ?_
            refine jw_W_gf rfl rfl rfl ?_
            show jw_W (js_S n) _ md_145 24 [some (.inr (.inr 13)), some (.inl i), some (.inl j), some (.inl b)] [.inr (.inr 57)] σ2 _
            refine jw_W_gf rfl rfl rfl ?_
            show jw_W (js_S n) _ md_145 25 [some (.inr (.inr 13)), some (.inl i), some (.inl j), some (.inl b)] [.inr (.inr 65)] σ2 _
            refine jw_W_n 1 (i' := 26) (ls' := [some (.inr (.inr 13)), some (.inl i), some (.inl j), some (.inl b)]) (st' := [.inl j, .inr (.inr 65)]) rfl ?_
            refine jw_W_ia rfl rfl (by omega) (by omega) (by omega) ?_
            show jw_W (js_S n) _ md_145 27 [some (.inr (.inr 13)), some (.inl i), some (.inl j), some (.inl b)] [.inl (σ2 65 j)] σ2 _
            refine jw_W_if rfl (by unfold jw_rg; omega) (fun hc5 => ?_) (fun hc5 => ?_)
            · have hc5 : (σ2 65 j) ≥ 0 := hc5
              refine jw_W_n 1 (i' := 31) (ls' := [some (.inr (.inr 13)), some (.inl i), some (.inl j), some (.inl b)]) (st' := [.inr (.inr 13)]) rfl ?_
              refine jw_W_gf rfl rfl rfl ?_
              show jw_W (js_S n) _ md_145 32 [some (.inr (.inr 13)), some (.inl i), some (.inl j), some (.inl b)] [.inr (.inr 57)] σ2 _
              refine jw_W_gf rfl rfl rfl ?_
              show jw_W (js_S n) _ md_145 33 [some (.inr (.inr 13)), some (.inl i), some (.inl j), some (.inl b)] [.inr (.inr 65)] σ2 _
              refine jw_W_n 1 (i' := 34) (ls' := [some (.inr (.inr 13)), some (.inl i), some (.inl j), some (.inl b)]) (st' := [.inl j, .inr (.inr 65)]) rfl ?_
              refine jw_W_ia rfl rfl (by omega) (by omega) (by omega) ?_
              show jw_W (js_S n) _ md_145 35 [some (.inr (.inr 13)), some (.inl i), some (.inl j), some (.inl b)] [.inl (σ2 65 j)] σ2 _
              refine jw_W_ir rfl ?_
              refine ⟨_, rfl, hf2, hK2.2.2, .inr ⟨by omega, ?_⟩⟩
              first | rw [if_pos (by omega)] | rw [if_neg (by omega)]
              rcases hds with hd | ⟨e, -⟩
              · exact .inl hd
              · omega
            · have hc5 : ¬ ((σ2 65 j) ≥ 0) := hc5
              refine jw_W_n 2 (i' := 35) (ls' := [some (.inr (.inr 13)), some (.inl i), some (.inl j), some (.inl b)]) (st' := [.inl ((-2))]) rfl ?_
              refine jw_W_ir rfl ?_
              refine ⟨_, rfl, hf2, hK2.2.2, .inr ⟨by omega, ?_⟩⟩
              first | rw [if_pos (by omega)] | rw [if_neg (by omega)]
              rcases hds with ⟨d, e, -⟩ | ⟨-, hno⟩
              · omega
              · exact .inr ⟨rfl, hno⟩
        · exact absurd hc2 (show ¬ ¬ ((1 : Int) ≠ 0) by omega)
      · rw [hs]
        show jw_W (js_S n) _ md_145 7 [some (.inr (.inr 13)), some (.inl i), some (.inl j), some (.inl b)] [.inl 0] σ _
        refine jw_W_if rfl (by unfold jw_rg; omega) (fun hc6 => ?_) (fun hc6 => ?_)
        · exact absurd hc6 (show ¬ ((0 : Int) ≠ 0) by omega)
        · clear hc6
          refine jw_W_n 1 (i' := 9) (ls' := [some (.inr (.inr 13)), some (.inl i), some (.inl j), some (.inl b)]) (st' := [.inl ((-1))]) rfl ?_
          refine jw_W_ir rfl ?_
          exact ⟨_, rfl, jx_fx_rf σ, hK.2.2, .inl ⟨rfl, by omega⟩⟩
  · rw [hs]
    show jw_W (js_S n) _ md_145 3 [some (.inr (.inr 13)), some (.inl i), some (.inl j), some (.inl b)] [.inl 0] σ _
    refine jw_W_if rfl (by unfold jw_rg; omega) (fun hc7 => ?_) (fun hc7 => ?_)
    · clear hc7
      refine jw_W_n 1 (i' := 9) (ls' := [some (.inr (.inr 13)), some (.inl i), some (.inl j), some (.inl b)]) (st' := [.inl ((-1))]) rfl ?_
      refine jw_W_ir rfl ?_
      exact ⟨_, rfl, jx_fx_rf σ, hK.2.2, .inl ⟨rfl, by omega⟩⟩
    · exact absurd hc7 (show ¬ ¬ ((0 : Int) = 0) by omega)

/-! ===== pieces: the reference ===== -/
/-- the lowest bit, got by the two's complement -/
theorem jx_lowbit : ∀ (w l : Nat), 0 < l → l < 2 ^ w → ∃ b, l.testBit b = true ∧ (∀ c, c < b → l.testBit c = false) ∧ l &&& (2 ^ w - l) = 2 ^ b
  | 0, l, h0, h1 => by
    simp at h1
    omega
  | w + 1, l, h0, h1 => by
    have e2 : 2 ^ (w + 1) = 2 * 2 ^ w := by rw [Nat.pow_succ, Nat.mul_comm]
    by_cases ho : l % 2 = 1
    · refine ⟨0, by rw [Nat.testBit_zero]; simp [ho], fun c hc => by omega, ?_⟩
      apply Nat.eq_of_testBit_eq
      intro i
      rw [Nat.testBit_and]
      cases i with
      | zero =>
        rw [Nat.testBit_zero, Nat.testBit_zero, Nat.testBit_zero]
        have : (2 ^ (w + 1) - l) % 2 = 1 := by omega
        simp [ho, this]
      | succ i =>
        rw [Nat.testBit_succ, Nat.testBit_succ, show (2 ^ (w + 1) - l) / 2 = 2 ^ w - (l / 2 + 1) by omega, Nat.testBit_two_pow_sub_succ (by omega), Nat.testBit_succ]
        cases (l / 2).testBit i <;> simp
    · obtain ⟨b, h2, h3, h4⟩ := jx_lowbit w (l / 2) (by omega) (by omega)
      refine ⟨b + 1, by rw [Nat.testBit_succ]; exact h2, fun c hc => ?_, ?_⟩
      · cases c with
        | zero =>
          rw [Nat.testBit_zero]
          have : l % 2 = 0 := by omega
          simp [this]
        | succ c =>
          rw [Nat.testBit_succ]
          exact h3 c (by omega)
      · apply Nat.eq_of_testBit_eq
        intro i
        rw [Nat.testBit_and]
        cases i with
        | zero =>
          rw [Nat.testBit_zero, Nat.testBit_zero, Nat.testBit_zero]
          have e1 : l % 2 = 0 := by omega
          have e3 : 2 ^ (b + 1) % 2 = 0 := by rw [Nat.pow_succ]; omega
          simp [e1, e3]
        | succ i =>
          have h5 : (l / 2 &&& (2 ^ w - l / 2)).testBit i = (2 ^ b).testBit i := by rw [h4]
          rw [Nat.testBit_and] at h5
          rw [Nat.testBit_succ, Nat.testBit_succ, Nat.testBit_succ, show (2 ^ (w + 1) - l) / 2 = 2 ^ w - l / 2 by omega, show 2 ^ (b + 1) / 2 = 2 ^ b by rw [Nat.pow_succ]; omega]
          exact h5
theorem jx_lowbit2 {l : Int} (l0 : 0 < l) (l1 : l ≤ 1048575) : ∃ b : Int, 0 ≤ b ∧ b < 20 ∧ jb_in l b.toNat ∧ (∀ c : Int, 0 ≤ c → c < b → ¬ jb_in l c.toNat) ∧ jw_and l (-l) = jw_shl 1 b := by
  obtain ⟨b, h1, h2, h3⟩ := jx_lowbit 32 l.toNat (by omega) (by omega)
  have hb : b < 20 := by
    by_cases hb : b < 20
    · exact hb
    · exact absurd h1 (jx_big ⟨by omega, l1⟩ (by omega))
  refine ⟨(b : Int), by omega, by omega, h1, fun c c0 c1 hh => ?_, ?_⟩
  · have := h2 c.toNat (by omega)
    unfold jb_in at hh
    rw [this] at hh
    cases hh
  · have e1 : (Int32.ofInt (-l)).toBitVec.toNat = 2 ^ 32 - l.toNat := by
      rw [Int32.toBitVec_ofInt, BitVec.toNat_ofInt]
      omega
    have e2 : ((Int32.ofInt l).toBitVec &&& (Int32.ofInt (-l)).toBitVec).toNat = 2 ^ b := by
      rw [BitVec.toNat_and, jb_bv (by omega) (by omega), e1, h3]
    have hlt : 2 ^ b < 2 ^ 31 := Nat.pow_lt_pow_right (by decide) (by omega)
    rw [jb_shl1 (by omega) (by omega), Int.toNat_natCast]
    unfold jw_and
    show ((Int32.ofInt l).toBitVec &&& (Int32.ofInt (-l)).toBitVec).toInt = _
    rw [BitVec.toInt_eq_toNat_of_lt (by rw [e2]; omega), e2]
theorem jx_less2 {s t : Int} (hs : 0 ≤ s ∧ s ≤ 1048575) (ht : 0 ≤ t ∧ t ≤ 1048575) : (0 ≤ jw_and s (jw_xor t (-1)) ∧ jw_and s (jw_xor t (-1)) ≤ s) ∧ ∀ b : Nat, jb_in (jw_and s (jw_xor t (-1))) b ↔ jb_in s b ∧ ¬ jb_in t b := by
  obtain ⟨u, h1, h2, h3⟩ := jb_less hs.1 (by omega) ht.1 (by omega)
  refine ⟨by rw [h1]; omega, fun b => ?_⟩
  unfold jb_in
  rw [h1, Int.toNat_natCast, h3, Bool.and_eq_true, Bool.not_eq_true', Bool.not_eq_true]
theorem jm_spread_j {n : Nat} {σ : jw_H} {D : Nat} {Q : Option jw_V → jw_H → Prop} (hD : 1 ≤ D) {C : List (ge_R × Int)} (hKN : jm_KN σ C) {i u w : Int} {k : Nat} (i0 : 0 ≤ i) (i1 : i < σ 103 56) (hw : jx_se σ 138 i k w) (hQ : ∀ s, jx_sg σ 138 i k (σ 103 56) s → jw_W (js_S n) D md_268 27 [some (.inr (.inr 103)), some (.inl u), some (.inr (.inr 138)), some (.inl w), some (.inl s), some (.inl (σ 103 56))] [] σ Q) : ∀ (f : Nat) {j s : Int}, 0 ≤ j → j + f = σ 103 56 → jx_sg σ 138 i k j s → jw_W (js_S n) D md_268 11 [some (.inr (.inr 103)), some (.inl u), some (.inr (.inr 138)), some (.inl w), some (.inl s), some (.inl j)] [] σ Q
  | f, j, s, j0, hk, H => by
    have ih : ∀ {s' : Int}, j < σ 103 56 → jx_sg σ 138 i k (j + 1) s' → jw_W (js_S n) D md_268 11 [some (.inr (.inr 103)), some (.inl u), some (.inr (.inr 138)), some (.inl w), some (.inl s'), some (.inl (j + 1))] [] σ Q := by
      intro s' h1 h2
      match f, hk with
      | 0, hk => omega
      | f + 1, hk => exact jm_spread_j hD hKN i0 i1 hw hQ f (by omega) (by omega) h2
    have hcb := (jm_kw_cbd hKN.1).2 σ (jm_fk_rf σ)
    have hcn := hcb.1
    have hPm := hKN.1.1
    have hqq := hPm.1
    have hww := hPm.2.1
    have hkk := hPm.2.2.1
    have hg57 := hKN.2.2.1.1
    have hg58 := hKN.2.2.2.1.1
    refine jw_W_n 2 (i' := 13) (ls' := [some (.inr (.inr 103)), some (.inl u), some (.inr (.inr 138)), some (.inl w), some (.inl s), some (.inl j)]) (st' := [.inr (.inr 103), .inl j]) rfl ?_
    refine jw_W_gf rfl rfl rfl ?_
    show jw_W (js_S n) _ md_268 14 [some (.inr (.inr 103)), some (.inl u), some (.inr (.inr 138)), some (.inl w), some (.inl s), some (.inl j)] [.inl (σ 103 56), .inl j] σ _
    refine jw_W_ic rfl (by unfold jw_rg; omega) (by unfold jw_rg; omega) (fun hc1 => ?_) (fun hc1 => ?_)
    · have hc1 : j ≥ (σ 103 56) := hc1
      have hkl : j = σ 103 56 := by omega
      subst hkl
      exact hQ _ H
    · have hc1 : ¬ (j ≥ (σ 103 56)) := hc1
      refine jw_W_n 2 (i' := 17) (ls' := [some (.inr (.inr 103)), some (.inl u), some (.inr (.inr 138)), some (.inl w), some (.inl s), some (.inl j)]) (st' := [.inl j, .inl w]) rfl ?_
      refine jw_W_call (as := [.inl w, .inl j]) (rest := []) rfl rfl rfl rfl (Nat.le_of_ble_eq_true rfl) (.inl rfl) (jm_has hw.1.1 (by have := hw.1.2; omega) j0 (by omega)) (by omega) ?_ rfl
      rintro r1 σz (⟨rfl, hs, hin⟩ | ⟨rfl, hs, hin⟩)
      · rw [hs]
        have hby := (hw.2 j j0).mp hin
        show jw_W (js_S n) _ md_268 18 [some (.inr (.inr 103)), some (.inl u), some (.inr (.inr 138)), some (.inl w), some (.inl s), some (.inl j)] [.inl 1] σ _
        refine jw_W_if rfl (by unfold jw_rg; omega) (fun hc2 => ?_) (fun hc2 => ?_)
        · exact absurd hc2 (show ¬ ((1 : Int) = 0) by omega)
        · clear hc2
          refine jw_W_n 3 (i' := 22) (ls' := [some (.inr (.inr 103)), some (.inl u), some (.inr (.inr 138)), some (.inl w), some (.inl s), some (.inl j)]) (st' := [.inl j, .inr (.inr 138), .inl s]) rfl ?_
          refine jw_W_ia rfl rfl (by omega) (by omega) (by omega) ?_
          show jw_W (js_S n) _ md_268 23 [some (.inr (.inr 103)), some (.inl u), some (.inr (.inr 138)), some (.inl w), some (.inl s), some (.inl j)] [.inl (σ 138 j), .inl s] σ _
          refine jw_W_n 4 (i' := 11) (ls' := [some (.inr (.inr 103)), some (.inl u), some (.inr (.inr 138)), some (.inl w), some (.inl (jw_or s (σ 138 j))), some (.inl (j + 1))]) (st' := []) rfl ?_
          exact ih (by omega) (jx_sg_yes H (jx_row_bd hKN (.inr rfl) j0 (by omega)) hby)
      · rw [hs]
        have hby : ¬ jx_by σ 138 i k j := fun hh => hin ((hw.2 j j0).mpr hh)
        show jw_W (js_S n) _ md_268 18 [some (.inr (.inr 103)), some (.inl u), some (.inr (.inr 138)), some (.inl w), some (.inl s), some (.inl j)] [.inl 0] σ _
        refine jw_W_if rfl (by unfold jw_rg; omega) (fun hc3 => ?_) (fun hc3 => ?_)
        · clear hc3
          refine jw_W_n 2 (i' := 11) (ls' := [some (.inr (.inr 103)), some (.inl u), some (.inr (.inr 138)), some (.inl w), some (.inl s), some (.inl (j + 1))]) (st' := []) rfl ?_
          exact ih (by omega) (jx_sg_no H hby)
        · exact absurd hc3 (show ¬ ¬ ((0 : Int) = 0) by omega)
theorem jm_spread_k {n : Nat} {σ : jw_H} {C : List (ge_R × Int)} (hKN : jm_KN σ C) {i u : Int} (i0 : 0 ≤ i) (i1 : i < σ 103 56) : ∀ (f : Nat) {k : Nat} {s w : Int} {a5 : Option jw_V}, (k : Int) + f = σ 103 56 + 1 → jx_se σ 138 i k s → (k = 0 ∧ w = 0 ∨ 1 ≤ k ∧ jx_se σ 138 i (k - 1) w) → jw_W (js_S n) 1 md_268 4 [some (.inr (.inr 103)), some (.inl u), some (.inr (.inr 138)), some (.inl w), some (.inl s), a5] [] σ (fun r σ' => ∃ s, r = some (.inl s) ∧ σ' = σ ∧ (0 ≤ s ∧ s ≤ 1048575) ∧ ∀ c : Int, 0 ≤ c → (jb_in s c.toNat ↔ jx_cc σ i c))
  | f, k, s, w, a5, hk, hS, HW => by
    have ih : ∀ {s' w' : Int} {a5 : Option jw_V}, (k : Int) < σ 103 56 → jx_se σ 138 i (k + 1) s' → (k + 1 = 0 ∧ w' = 0 ∨ 1 ≤ k + 1 ∧ jx_se σ 138 i (k + 1 - 1) w') → jw_W (js_S n) 1 md_268 4 [some (.inr (.inr 103)), some (.inl u), some (.inr (.inr 138)), some (.inl w'), some (.inl s'), a5] [] σ (fun r σ' => ∃ s, r = some (.inl s) ∧ σ' = σ ∧ (0 ≤ s ∧ s ≤ 1048575) ∧ ∀ c : Int, 0 ≤ c → (jb_in s c.toNat ↔ jx_cc σ i c)) := by
      intro s' w' a5 h1 h2 h3
      match f, hk with
      | 0, hk => omega
      | f + 1, hk => exact jm_spread_k (k := k + 1) hKN i0 i1 f (by omega) h2 h3
    have hSb := hS.1
    have hS0 : s ≠ 0 := by
      intro e
      have := (hS.2 i i0).mpr (jx_by_up (Nat.zero_le _) (show jx_by σ 138 i 0 i from rfl))
      rw [e] at this
      simp [jb_in] at this
    have hWb : 0 ≤ w ∧ w ≤ 1048575 := by
      rcases HW with ⟨-, e⟩ | ⟨-, e⟩
      · omega
      · exact e.1
    have hcb := (jm_kw_cbd hKN.1).2 σ (jm_fk_rf σ)
    have hcn := hcb.1
    have hPm := hKN.1.1
    have hqq := hPm.1
    have hww := hPm.2.1
    have hkk := hPm.2.2.1
    have hg57 := hKN.2.2.1.1
    have hg58 := hKN.2.2.2.1.1
    refine jw_W_n 2 (i' := 6) (ls' := [some (.inr (.inr 103)), some (.inl u), some (.inr (.inr 138)), some (.inl w), some (.inl s), a5]) (st' := [.inl w, .inl s]) rfl ?_
    refine jw_W_ic rfl (by unfold jw_rg; omega) (by unfold jw_rg; omega) (fun hc1 => ?_) (fun hc1 => ?_)
    · have hc1 : s = w := hc1
      refine jw_W_n 1 (i' := 29) (ls' := [some (.inr (.inr 103)), some (.inl u), some (.inr (.inr 138)), some (.inl w), some (.inl s), a5]) (st' := [.inl s]) rfl ?_
      refine jw_W_ir rfl ?_
      rcases HW with ⟨e1, e2⟩ | ⟨e1, e2⟩
      · omega
      · have hws : w = s := by omega
        rw [hws] at e2
        refine ⟨s, rfl, rfl, hS.1, fun c c0 => ⟨fun hh => ⟨k, (hS.2 c c0).mp hh⟩, fun ⟨m, hm⟩ => ?_⟩⟩
        refine (hS.2 c c0).mpr (Classical.byContradiction (fun hn => ?_))
        have e3 : k = k - 1 + 1 := by omega
        have hS2 := hS
        rw [e3] at hS2
        exact jx_se_stop hS2 e2 (fun hh => (jx_by_in hKN (.inr rfl) i0 i1 hh).1) (fun h9 => hn (jx_by_up (by omega) h9)) m hm
    · have hc1 : ¬ (s = w) := hc1
      refine jw_W_n 4 (i' := 11) (ls' := [some (.inr (.inr 103)), some (.inl u), some (.inr (.inr 138)), some (.inl s), some (.inl s), some (.inl 0)]) (st' := []) rfl ?_
      have hkn : (k : Int) < σ 103 56 := by
        rcases HW with ⟨e1, e2⟩ | ⟨e1, e2⟩
        · omega
        · have hS2 := hS
          rw [show k = k - 1 + 1 by omega] at hS2
          obtain ⟨c, hc⟩ := jx_se_new hS2 e2 (by omega)
          have := jx_xd_lt hKN (.inr rfl) i0 i1 hc
          omega
      refine jm_spread_j (D := 1) (by omega) hKN i0 i1 hS (fun s4 H4 => ?_) (σ 103 56).toNat (j := 0) (by omega) (by omega) (jx_se_g hKN (.inr rfl) i0 i1 hS)
      refine jw_W_n 1 (i' := 4) (ls' := [some (.inr (.inr 103)), some (.inl u), some (.inr (.inr 138)), some (.inl s), some (.inl s4), some (.inl (σ 103 56))]) (st' := []) rfl ?_
      exact ih (by omega) (jx_sg_s hKN (.inr rfl) i0 i1 H4) (.inr ⟨by omega, hS⟩)
theorem jm_spread {n : Nat} {σ : jw_H} {C : List (ge_R × Int)} (hKN : jm_KN σ C) {i : Int} (i0 : 0 ≤ i) (i1 : i < σ 103 56) : jw_T (js_S n) 2 268 [.inr (.inr 103), .inl (jw_shl 1 i), .inr (.inr 138)] σ (fun r σ' => ∃ s, r = some (.inl s) ∧ σ' = σ ∧ (0 ≤ s ∧ s ≤ 1048575) ∧ ∀ c : Int, 0 ≤ c → (jb_in s c.toNat ↔ jx_cc σ i c)) := by
  refine jw_T_of (D := 1) (M := mm_268) rfl (Nat.le_of_ble_eq_true rfl) (ls0 := [some (.inr (.inr 103)), some (.inl (jw_shl 1 i)), some (.inr (.inr 138)), none, none, none]) rfl ?_ (by rintro _ _ ⟨_, rfl, -⟩; rfl)
  have hcb := (jm_kw_cbd hKN.1).2 σ (jm_fk_rf σ)
  have hcn := hcb.1
  have hPm := hKN.1.1
  have hqq := hPm.1
  have hww := hPm.2.1
  have hkk := hPm.2.2.1
  have hg57 := hKN.2.2.1.1
  have hg58 := hKN.2.2.2.1.1
  refine jw_W_n 4 (i' := 4) (ls' := [some (.inr (.inr 103)), some (.inl (jw_shl 1 i)), some (.inr (.inr 138)), some (.inl 0), some (.inl (jw_shl 1 i)), none]) (st' := []) rfl ?_
  exact jm_spread_k (k := 0) hKN i0 i1 (σ 103 56 + 1).toNat (w := 0) (by omega) (jx_se_0 i0 (by omega)) (.inl ⟨rfl, rfl⟩)
/-- those left: in no piece of one below B -/
def jx_lf (σ : jw_H) (B l : Int) : Prop := (0 ≤ l ∧ l ≤ 1048575) ∧ ∀ c : Int, 0 ≤ c → (jb_in l c.toNat ↔ jm_good σ c ∧ ¬ jx_sn2 σ B c)
theorem jx_lf_s {σ : jw_H} {C : List (ge_R × Int)} (hK : jm_KN σ C) {B l b : Int} (B0 : 0 ≤ B) (h : jx_lf σ B l) (b0 : 0 ≤ b) (b1 : b < σ 103 56) (hb : jb_in l b.toNat) (hlo : ∀ c : Int, 0 ≤ c → c < b → ¬ jb_in l c.toNat) : B ≤ b ∧ jx_lo σ b ∧ (∀ c, B ≤ c → c < b → ¬ jx_lo σ c) ∧ ∀ s, (0 ≤ s ∧ s ≤ 1048575) → (∀ c : Int, 0 ≤ c → (jb_in s c.toNat ↔ jx_cc σ b c)) → jx_lf σ (b + 1) (jw_and l (jw_xor s (-1))) := by
  obtain ⟨g1, g2⟩ := (h.2 b b0).mp hb
  have hBb : B ≤ b := by
    by_cases e : B ≤ b
    · exact e
    · exact absurd ⟨b, b0, by omega, g1, jx_cc_rf σ b⟩ g2
  -- one below b is in a piece of one below B
  have bel : ∀ r, 0 ≤ r → r < b → jm_good σ r → jx_sn2 σ B r := fun r r0 r1 hr => Classical.byContradiction (fun hn => hlo r r0 r1 ((h.2 r r0).mpr ⟨hr, hn⟩))
  have up : ∀ c, jx_sn2 σ b c → jx_sn2 σ B c := fun c ⟨r, r0, r1, r2, r3⟩ => by
    obtain ⟨q, q0, q1, q2, q3⟩ := bel r r0 r1 r2
    exact ⟨q, q0, q1, q2, jx_cc_tr q3 r3⟩
  refine ⟨hBb, (jx_lo_iff hK b1).mpr ⟨g1, fun hh => g2 (up b hh)⟩, fun c c0 c1 hc => ?_, fun s hs hsb => ?_⟩
  · obtain ⟨q, q0, q1, q2, q3⟩ := bel c (by omega) c1 hc.1
    exact hc.2 q q0 (by omega) q3
  · obtain ⟨h1, h2⟩ := jx_less2 h.1 hs
    have hl := h.1
    refine ⟨by omega, fun c c0 => ?_⟩
    rw [h2, h.2 c c0, hsb c c0]
    constructor
    · rintro ⟨⟨a1, a2⟩, a3⟩
      refine ⟨a1, fun ⟨r, r0, r1, r2, r3⟩ => ?_⟩
      by_cases e : r = b
      · rw [e] at r3
        exact a3 r3
      · exact a2 (up c ⟨r, r0, by omega, r2, r3⟩)
    · rintro ⟨a1, a2⟩
      exact ⟨⟨a1, fun ⟨r, r0, r1, r2, r3⟩ => a2 ⟨r, r0, by omega, r2, r3⟩⟩, fun a3 => a2 ⟨b, b0, by omega, g1, a3⟩⟩
theorem jx_cn_skip {P : Int → Prop} {B b m : Int} (B0 : 0 ≤ B) (h : m = jx_cn P B.toNat) (hBb : B ≤ b) (hn : ∀ c, B ≤ c → c < b → ¬ P c) : m = jx_cn P b.toNat := by
  rw [h, jx_cn_more (a := B.toNat) (b := b.toNat) (by omega) (fun k k0 k1 => hn k (by omega) (by omega))]
theorem jm_pcs_loop {n : Nat} {σ : jw_H} {C : List (ge_R × Int)} (hKN : jm_KN σ C) : ∀ (f : Nat) {B m l : Int}, 0 ≤ B → B ≤ σ 103 56 → l < f → m = jx_cn (fun c => jx_lo σ c) B.toNat → jx_lf σ B l → jw_W (js_S n) 2 md_269 5 [some (.inr (.inr 103)), some (.inl m), some (.inl l)] [] σ (fun r σ' => r = some (.inl (jx_cn (fun c => jx_lo σ c) (σ 103 56).toNat)) ∧ σ' = σ)
  | 0, B, m, l, B0, B1, hf, H, HL => absurd hf (by have := HL.1; omega)
  | f + 1, B, m, l, B0, B1, hf, H, HL => by
    have hl := HL.1
    have hcb := (jm_kw_cbd hKN.1).2 σ (jm_fk_rf σ)
    have hcn := hcb.1
    have hPm := hKN.1.1
    have hqq := hPm.1
    have hww := hPm.2.1
    have hkk := hPm.2.2.1
    have hg57 := hKN.2.2.1.1
    have hg58 := hKN.2.2.2.1.1
    refine jw_W_n 1 (i' := 6) (ls' := [some (.inr (.inr 103)), some (.inl m), some (.inl l)]) (st' := [.inl l]) rfl ?_
    refine jw_W_if rfl (by unfold jw_rg; omega) (fun hc1 => ?_) (fun hc1 => ?_)
    · have hc1 : l = 0 := hc1
      refine jw_W_n 1 (i' := 26) (ls' := [some (.inr (.inr 103)), some (.inl m), some (.inl l)]) (st' := [.inl m]) rfl ?_
      refine jw_W_ir rfl ?_
      have hl0 : l = 0 := by omega
      refine ⟨?_, rfl⟩
      rw [jx_cn_skip (P := fun c => jx_lo σ c) B0 H (show B ≤ σ 103 56 by omega) (fun c c0 c1 hc => ?_)]
      have := (HL.2 c (by omega)).mpr ⟨hc.1, fun ⟨r, r0, r1, r2, r3⟩ => hc.2 r r0 (by omega) r3⟩
      rw [hl0] at this
      simp [jb_in] at this
    · have hc1 : ¬ (l = 0) := hc1
      obtain ⟨b, b0, b20, hb1, hb2, hb3⟩ := jx_lowbit2 (l := l) (by omega) (by omega)
      have hbn : b < σ 103 56 := by
        have := (HL.2 b b0).mp hb1
        have h3 := (hKN.2.2.1.2 b b0).mp this.1
        have hcl := hKN.1.2.1.1.1
        omega
      refine jw_W_n 10 (i' := 17) (ls' := [some (.inr (.inr 103)), some (.inl (m + 1)), some (.inl l)]) (st' := [.inl (jw_and l ((-l))), .inr (.inr 103), .inl l]) rfl ?_
      rw [hb3]
      refine jw_W_n 1 (i' := 18) (ls' := [some (.inr (.inr 103)), some (.inl (m + 1)), some (.inl l)]) (st' := [.inr (.inr 103), .inl (jw_shl 1 b), .inr (.inr 103), .inl l]) rfl ?_
      refine jw_W_gf rfl rfl rfl ?_
      show jw_W (js_S n) _ md_269 19 [some (.inr (.inr 103)), some (.inl (m + 1)), some (.inl l)] [.inr (.inr 138), .inl (jw_shl 1 b), .inr (.inr 103), .inl l] σ _
      refine jw_W_call (as := [.inr (.inr 103), .inl (jw_shl 1 b), .inr (.inr 138)]) (rest := [.inl l]) rfl rfl rfl rfl (Nat.le_of_ble_eq_true rfl) (.inr rfl) (jm_spread hKN b0 hbn) (by omega) ?_ rfl
      rintro r1 σz ⟨s4, rfl, hs, hsp, hsq⟩
      rw [hs]
      show jw_W (js_S n) _ md_269 20 [some (.inr (.inr 103)), some (.inl (m + 1)), some (.inl l)] [.inl s4, .inl l] σ _
      refine jw_W_n 5 (i' := 5) (ls' := [some (.inr (.inr 103)), some (.inl (m + 1)), some (.inl (jw_and l (jw_xor s4 ((-1)))))]) (st' := []) rfl ?_
      obtain ⟨z1, z2, z3, z4⟩ := jx_lf_s hKN B0 HL b0 hbn hb1 hb2
      have hz := jx_less2 HL.1 hsp
      have hne : jw_and l (jw_xor s4 (-1)) < l := by
        by_cases e : jw_and l (jw_xor s4 (-1)) = l
        · have := (hz.2 b.toNat).mp (by rw [e]; exact hb1)
          exact absurd ((hsq b b0).mpr (jx_cc_rf σ b)) this.2
        · omega
      exact jm_pcs_loop hKN f (show 0 ≤ b + 1 by omega) (by omega) (by omega) (jx_cn_yes b0 (jx_cn_skip B0 H z1 z3) z2) (z4 s4 hsp hsq)
theorem jm_pieces {n : Nat} {σ : jw_H} {C : List (ge_R × Int)} (hKN : jm_KN σ C)  : jw_T (js_S n) 3 269 [.inr (.inr 103)] σ (fun r σ' => r = some (.inl (jx_cn (fun c => jx_lo σ c) (σ 103 56).toNat)) ∧ σ' = σ) := by
  refine jw_T_of (D := 2) (M := mm_269) rfl (Nat.le_of_ble_eq_true rfl) (ls0 := [some (.inr (.inr 103)), none, none]) rfl ?_ (by rintro _ _ ⟨rfl, -⟩; rfl)
  have hcb := (jm_kw_cbd hKN.1).2 σ (jm_fk_rf σ)
  have hcn := hcb.1
  have hPm := hKN.1.1
  have hqq := hPm.1
  have hww := hPm.2.1
  have hkk := hPm.2.2.1
  have hg57 := hKN.2.2.1.1
  have hg58 := hKN.2.2.2.1.1
  refine jw_W_n 3 (i' := 3) (ls' := [some (.inr (.inr 103)), some (.inl 0), none]) (st' := [.inr (.inr 103)]) rfl ?_
  refine jw_W_gf rfl rfl rfl ?_
  show jw_W (js_S n) _ md_269 4 [some (.inr (.inr 103)), some (.inl 0), none] [.inl (σ 103 57)] σ _
  refine jw_W_n 1 (i' := 5) (ls' := [some (.inr (.inr 103)), some (.inl 0), some (.inl (σ 103 57))]) (st' := []) rfl ?_
  exact jm_pcs_loop hKN ((σ 103 57).toNat + 1) (B := 0) (m := 0) (by omega) (by omega) (by omega) rfl ⟨hg57, fun c c0 => ⟨fun hh => ⟨hh, fun ⟨r, r0, r1, _⟩ => by omega⟩, fun hh => hh.1⟩⟩

/-! ===== the reference's layers of corners, done ===== -/
theorem jm_lshl1 : ∀ n : Fin 21, jw_lshl 1 (n.val : Int) = ((2 ^ n.val : Nat) : Int) := by decide +kernel
/-- the layers so far -/
def jm_lr (σ0 : jw_H) (t : Nat) (σ : jw_H) : Prop := jm_fl σ0 σ ∧ σ 103 59 = (t : Int) ∧ (∀ s, s < t → ∃ a, jm_lv σ0 s a) ∧ ∀ a, 0 ≤ a → a < σ0 103 56 → ¬ jm_lv σ0 t a → ∃ s : Nat, s < t ∧ σ 139 a = (s : Int) ∧ jm_lv σ0 s a ∧ ¬ jm_lv σ0 (s + 1) a
def jm_ll (σ0 : jw_H) (t : Nat) (l : Int) : Prop := (0 ≤ l ∧ l ≤ 1048575) ∧ ∀ a : Int, 0 ≤ a → (jb_in l a.toNat ↔ jm_lv σ0 t a)
theorem jm_ll_nz {σ0 : jw_H} {t : Nat} {l : Int} (h : jm_ll σ0 t l) (hl : l ≠ 0) : ∃ a, jm_lv σ0 t a := by
  apply Classical.byContradiction
  intro hn
  have : l.toNat = 0 := Nat.eq_of_testBit_eq (fun i => by
    rw [Nat.zero_testBit]
    match e : l.toNat.testBit i with
    | false => rfl
    | true => exact absurd ⟨(i : Int), (h.2 (i : Int) (by omega)).mp (by unfold jb_in; rw [Int.toNat_natCast]; exact e)⟩ hn)
  have := h.1
  omega
theorem jm_nw_lv {σ0 : jw_H} {t : Nat} {l w : Int} (hb : jm_cbd σ0) (h : jm_ll σ0 t l) (hw : jm_nw σ0 l (σ0 103 56) 0 w) (a : Int) (a0 : 0 ≤ a) (a1 : a < 20) : jb_in w a.toNat ↔ jm_lv σ0 t a ∧ ¬ jm_lv σ0 (t + 1) a := by
  rw [hw.2 a a0 a1, h.2 a a0]
  constructor
  · rintro ⟨h1, h2⟩
    refine ⟨h1, ?_⟩
    rintro ⟨-, c, hc, hac⟩
    have c01 := jm_lv_in hc
    have a01 := jm_lv_in h1
    exact h2 ⟨c, c01.1, c01.2, (h.2 c c01.1).mpr hc, hac, by omega⟩
  · rintro ⟨h1, h2⟩
    refine ⟨h1, ?_⟩
    rintro ⟨c, c0, c1, hc, hac, -⟩
    exact h2 ⟨h1, c, (h.2 c c0).mp hc, hac⟩
/-- what is left after one layer more: less -/
theorem jm_ll_s {σ0 : jw_H} {t : Nat} {l w : Int} (hb : jm_cbd σ0) (h : jm_ll σ0 t l) (hw : jm_nw σ0 l (σ0 103 56) 0 w) (hl : l ≠ 0) : jm_ll σ0 (t + 1) (jw_and l (jw_xor w (-1))) ∧ jw_and l (jw_xor w (-1)) < l := by
  obtain ⟨w0, w1⟩ := hw.1
  obtain ⟨l0, l1⟩ := h.1
  obtain ⟨s, es, sl, sb⟩ := jb_less (a := l) (b := w) l0 (by omega) w0 (by omega)
  have hlt : ∀ a : Int, jm_lv σ0 t a → a < 20 := fun a ha => by
    have := jm_lv_in ha
    have := hb.1
    omega
  have hs : ∀ a : Int, 0 ≤ a → (jb_in (s : Int) a.toNat ↔ jm_lv σ0 (t + 1) a) := fun a a0 => by
    have e1 := sb a.toNat
    have e : jb_in (s : Int) a.toNat ↔ jb_in l a.toNat ∧ ¬ jb_in w a.toNat := by
      unfold jb_in
      rw [Int.toNat_natCast, e1]
      cases l.toNat.testBit a.toNat <;> cases w.toNat.testBit a.toNat <;> simp
    rw [e, h.2 a a0]
    constructor
    · rintro ⟨h1, h2⟩
      rw [jm_nw_lv hb h hw a a0 (hlt a h1)] at h2
      exact Classical.byContradiction (fun hn => h2 ⟨h1, hn⟩)
    · intro h1
      refine ⟨h1.1, fun h2 => ?_⟩
      exact ((jm_nw_lv hb h hw a a0 (hlt a h1.1)).mp h2).2 h1
  rw [es]
  refine ⟨⟨by omega, hs⟩, ?_⟩
  apply Classical.byContradiction
  intro hn
  have e : (s : Int) = l := by omega
  obtain ⟨a, ha⟩ := jm_ll_nz h hl
  have a01 := jm_lv_in ha
  obtain ⟨i, i0, i1, hi, ht⟩ := jm_top (σ := σ0) (jm_lv σ0 t) (fun i hi => by
    have := jm_lv_in hi
    exact (hb.2 i this.1 this.2).1.2.2.2.1) (σ0 103 56).toNat ⟨a, a01.1, by omega, ha⟩
  have h1 := (hs i i0).mp (by rw [e]; exact (h.2 i i0).mpr hi)
  obtain ⟨-, c, hc, hac⟩ := h1
  have c01 := jm_lv_in hc
  exact ht c c01.1 (by omega) hc hac
theorem jm_lr_s {σ0 σ σ' : jw_H} {t : Nat} {l w : Int} (hb : jm_cbd σ0) (h : jm_lr σ0 t σ) (hl : jm_ll σ0 t l) (hn : l ≠ 0) (hw : jm_nw σ0 l (σ0 103 56) 0 w) (hz : jm_lz σ0 σ (t : Int) w σ' (σ0 103 56)) : jm_lr σ0 (t + 1) (jw_up σ' 103 59 ((t : Int) + 1)) := by
  obtain ⟨h1, h2, h3, h4⟩ := h
  obtain ⟨z1, z2, z3⟩ := hz
  have bm := hb.1
  refine ⟨jm_fl_up z1 (by omega), by rw [jw_up_eq]; omega, fun s hs => ?_, fun a a0 a1 hna => ?_⟩
  · by_cases e : s = t
    · rw [e]
      exact jm_ll_nz hl hn
    · exact h3 s (by omega)
  · rw [jw_up_out _ _ _ (show (139 : Nat) ≠ 103 by omega)]
    have hwl := jm_nw_lv hb hl hw a a0 (by omega)
    by_cases ht : jm_lv σ0 t a
    · exact ⟨t, by omega, (z3 a a0 a1).1 a1 (hwl.mpr ⟨ht, hna⟩), ht, hna⟩
    · obtain ⟨s, hs, e, e1, e2⟩ := h4 a a0 a1 ht
      exact ⟨s, by omega, ((z3 a a0 a1).2 (fun hh => ht (hwl.mp hh.2).1)).trans e, e1, e2⟩
theorem jm_lay_loop {n : Nat} {σ0 : jw_H} {Q : Option jw_V → jw_H → Prop} (hP : jm_Pb σ0) (hb : jm_cbd σ0) (hQ : ∀ σ' t, jm_lr σ0 t σ' → (∀ a, ¬ jm_lv σ0 t a) → Q none σ') : ∀ (f : Nat) {σ : jw_H} {t : Nat} {l : Int} {a1 a2 a3 : Option jw_V}, l.toNat < f → jm_ll σ0 t l → jm_lr σ0 t σ → jw_W (js_S n) 3 md_256 11 [some (.inr (.inr 103)), some (.inl l), a1, a2, a3] [] σ Q
  | 0, σ, t, l, a1, a2, a3, hf, _, _ => absurd hf (by omega)
  | f + 1, σ, t, l, a1, a2, a3, hf, hL, hR => by
    have ih : ∀ {σ' : jw_H} {l' : Int} {b1 b2 b3 : Option jw_V}, l' < l → jm_ll σ0 (t + 1) l' → jm_lr σ0 (t + 1) σ' → jw_W (js_S n) 3 md_256 11 [some (.inr (.inr 103)), some (.inl l'), b1, b2, b3] [] σ' Q := by
      intro σ' l' b1 b2 b3 h1 h2 h3
      exact jm_lay_loop hP hb hQ f (by have := h2.1; omega) h2 h3
    have lr := hL.1
    have bm := hb.1
    refine jw_W_n 1 (i' := 12) (ls' := [some (.inr (.inr 103)), some (.inl l), a1, a2, a3]) (st' := [.inl l]) rfl ?_
    refine jw_W_if rfl (by unfold jw_rg; omega) (fun hc1 => ?_) (fun hc1 => ?_)
    · have hc1 : l = 0 := hc1
      refine jw_W_re rfl ?_
      exact hQ σ t hR (fun a ha => by
        have h9 := (hL.2 a (jm_lv_in ha).1).mpr ha
        rw [hc1] at h9
        unfold jb_in at h9
        simp at h9)
    · have hc1 : ¬ (l = 0) := hc1
      refine jw_W_n 4 (i' := 17) (ls' := [some (.inr (.inr 103)), some (.inl l), some (.inl l), some (.inl 0), a3]) (st' := []) rfl ?_
      have hln : l ≠ 0 := by omega
      refine jm_lay_i (D := 3) (by omega) hP hb hR.1 hL.1 (fun w v hw => ?_) (σ0 103 56).toNat (i := 0) (by omega) (by omega) (jm_nw_0 hL.1)
      refine jw_W_n 2 (i' := 54) (ls' := [some (.inr (.inr 103)), some (.inl l), some (.inl w), some (.inl 0), v]) (st' := []) rfl ?_
      refine jm_lay_z (σs := σ) (t := (t : Int)) (D := 3) (by omega) hb hw.1 (fun σ3 hz => ?_) (σ0 103 56).toNat (i := 0) (by omega) (by omega) ⟨hR.1, hR.2.1, fun a a0 a1 => ⟨fun h => by omega, fun _ => rfl⟩⟩
      have hLs := jm_ll_s hb hL hw hln
      have hRs := jm_lr_s hb hR hL hln hw hz
      refine jw_W_n 8 (i' := 78) (ls' := [some (.inr (.inr 103)), some (.inl (jw_and l (jw_xor w ((-1))))), some (.inl w), some (.inl (σ0 103 56)), v]) (st' := [.inr (.inr 103), .inr (.inr 103)]) rfl ?_
      refine jw_W_gf rfl rfl rfl ?_
      show jw_W (js_S n) _ md_256 79 [some (.inr (.inr 103)), some (.inl (jw_and l (jw_xor w ((-1))))), some (.inl w), some (.inl (σ0 103 56)), v] [.inl (σ3 103 59), .inr (.inr 103)] σ3 _
      rw [hz.2.1]
      refine jw_W_n 2 (i' := 81) (ls' := [some (.inr (.inr 103)), some (.inl (jw_and l (jw_xor w ((-1))))), some (.inl w), some (.inl (σ0 103 56)), v]) (st' := [.inl (((t : Int)) + 1), .inr (.inr 103)]) rfl ?_
      refine jw_W_pf (a := ((t : Int)) + 1) rfl (by omega) rfl rfl rfl rfl rfl ?_
      refine jw_W_n 1 (i' := 11) (ls' := [some (.inr (.inr 103)), some (.inl (jw_and l (jw_xor w ((-1))))), some (.inl w), some (.inl (σ0 103 56)), v]) (st' := []) rfl ?_
      exact ih hLs.2 hLs.1 hRs
theorem jm_laysLayers {n : Nat} {σ : jw_H} (hP : jm_Pb σ) (hb : jm_cbd σ) : jw_T (js_S n) 4 256 [.inr (.inr 103)] σ (fun r σ' => r = none ∧ ∃ t : Nat, jm_lr σ t σ' ∧ ∀ a, ¬ jm_lv σ t a) := by
  refine jw_T_of (D := 3) (M := mm_256) rfl (Nat.le_of_ble_eq_true rfl) (ls0 := [some (.inr (.inr 103)), none, none, none, none]) rfl ?_ (by rintro _ _ ⟨rfl, -⟩; rfl)
  refine jw_W_n 2 (i' := 2) (ls' := [some (.inr (.inr 103)), none, none, none, none]) (st' := [.inr (.inr 103), .inr (.inl 1)]) rfl ?_
  refine jw_W_gf rfl rfl rfl ?_
  show jw_W (js_S n) _ md_256 3 [some (.inr (.inr 103)), none, none, none, none] [.inl (σ 103 56), .inr (.inl 1)] σ _
  refine jw_W_n 7 (i' := 10) (ls' := [some (.inr (.inr 103)), some (.inl ((jw_lshl 1 (σ 103 56)) - 1)), none, none, none]) (st' := [.inl 0, .inr (.inr 103)]) rfl ?_
  refine jw_W_pf (a := 0) rfl (by omega) rfl rfl rfl rfl rfl ?_
  refine jm_lay_loop (t := 0) hP hb (fun σ' t h1 h2 => ⟨rfl, t, h1, h2⟩) _ (Nat.lt_succ_self _) ?_ ⟨jm_fl_up ⟨fun _ _ _ => rfl, fun _ _ => rfl⟩ (by omega), jw_up_eq _ _ _ _, fun s hs => by omega, fun a a0 a1 hn => absurd ⟨a0, a1⟩ hn⟩
  have bm := hb.1
  have e := jm_lshl1 ⟨(σ 103 56).toNat, by omega⟩
  simp only [Int.toNat_of_nonneg bm.1] at e
  rw [e]
  have h20 : (2 : Nat) ^ (σ 103 56).toNat ≤ 2 ^ 20 := Nat.pow_le_pow_right (by decide) (by omega)
  rw [show (2 : Nat) ^ 20 = 1048576 by decide] at h20
  have hp := Nat.two_pow_pos (σ 103 56).toNat
  have en : (((2 : Nat) ^ (σ 103 56).toNat : Nat) : Int) - 1 = (((2 : Nat) ^ (σ 103 56).toNat - 1 : Nat) : Int) := by omega
  rw [en]
  refine ⟨by omega, fun a a0 => ?_⟩
  unfold jb_in
  rw [Int.toNat_natCast, Nat.testBit_two_pow_sub_one, decide_eq_true_eq]
  unfold jm_lv
  omega

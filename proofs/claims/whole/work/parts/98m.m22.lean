/-! ===== the reference's layers of corners ===== -/
theorem ge_bt_tr {F : List ge_D} {p q r : ge_R} (wp : 0 < p.2.2.2) (wq : 0 < q.2.2.2) (wr : 0 < r.2.2.2) (h1 : ge_bt F p q) (h2 : ge_bt F q r) : ge_bt F p r := by
  obtain ⟨a1, f, hf, a2⟩ := h1
  exact ⟨fun g hg => ge_fr_le wp wq wr (a1 g hg) (h2.1 g hg), f, hf, ge_fr_lt wp wq wr (a1 f hf) (h2.1 f hf) (.inl a2)⟩
theorem ge_bt_ir {F : List ge_D} {p : ge_R} : ¬ ge_bt F p p := by
  rintro ⟨-, f, -, h⟩
  omega
/-- c is above a -/
def jm_ab' (σ : jw_H) (c a : Int) : Prop := ge_bt (jm_F σ) (jm_ct σ a) (jm_ct σ c)
/-- what is left after so many layers -/
def jm_lv (σ : jw_H) : Nat → Int → Prop
  | 0, i => 0 ≤ i ∧ i < σ 103 56
  | t + 1, i => jm_lv σ t i ∧ ∃ c, jm_lv σ t c ∧ jm_ab' σ c i
theorem jm_lv_in {σ : jw_H} : ∀ {t : Nat} {i : Int}, jm_lv σ t i → 0 ≤ i ∧ i < σ 103 56
  | 0, _, h => h
  | _ + 1, _, h => jm_lv_in h.1
theorem jm_top {σ : jw_H} (S : Int → Prop) (hw : ∀ i, S i → 0 < (jm_ct σ i).2.2.2) : ∀ m : Nat, (∃ i : Int, 0 ≤ i ∧ i < m ∧ S i) → ∃ i : Int, 0 ≤ i ∧ i < m ∧ S i ∧ ∀ c : Int, 0 ≤ c → c < m → S c → ¬ jm_ab' σ c i
  | 0, ⟨i, i0, i1, _⟩ => by omega
  | m + 1, ⟨i, i0, i1, hi⟩ => by
    by_cases h : ∃ i : Int, 0 ≤ i ∧ i < m ∧ S i
    · obtain ⟨j, j0, j1, hj, ht⟩ := jm_top S hw m h
      by_cases hm : S (m : Int) ∧ jm_ab' σ (m : Int) j
      · refine ⟨(m : Int), by omega, by omega, hm.1, fun c c0 c1 hc ha => ?_⟩
        by_cases e : c = (m : Int)
        · rw [e] at ha
          exact ge_bt_ir ha
        · exact ht c c0 (by omega) hc (ge_bt_tr (hw _ hj) (hw _ hm.1) (hw _ hc) hm.2 ha)
      · refine ⟨j, j0, by omega, hj, fun c c0 c1 hc ha => ?_⟩
        by_cases e : c = (m : Int)
        · rw [e] at hc ha
          exact hm ⟨hc, ha⟩
        · exact ht c c0 (by omega) hc ha
    · have e : i = (m : Int) := Classical.byContradiction (fun hn => h ⟨i, i0, by omega, hi⟩)
      refine ⟨i, i0, i1, hi, fun c c0 c1 hc ha => ?_⟩
      by_cases e2 : c = (m : Int)
      · rw [e2, ← e] at ha
        exact ge_bt_ir ha
      · exact h ⟨c, c0, by omega, hc⟩
def jm_fl (σ σ' : jw_H) : Prop := (∀ o, o ≠ 139 → o ≠ 103 → σ' o = σ o) ∧ ∀ j, j ≠ 59 → σ' 103 j = σ 103 j
theorem jm_fl_k {σ σ' : jw_H} (a : jm_fl σ σ') : jm_fk σ σ' := ⟨fun o h1 h2 => a.1 o (by omega) h2, fun j _ _ _ h => a.2 j h⟩
theorem jm_fl_up {σ σ' : jw_H} {o : Nat} {j v : Int} (a : jm_fl σ σ') (ho : o = 139 ∨ o = 103 ∧ j = 59) : jm_fl σ (jw_up σ' o j v) := by
  refine ⟨fun o' h1 h2 => ?_, fun j' h => ?_⟩
  · rw [jw_up_out _ _ _ (by omega)]
    exact a.1 o' h1 h2
  · rw [jw_up_ne _ (by omega)]
    exact a.2 j' h
theorem jm_fl_ab {σ σ' : jw_H} (a : jm_fl σ σ') (c i : Int) : ge_bt (jm_F σ') (jm_ct σ' i) (jm_ct σ' c) ↔ jm_ab' σ c i := by
  unfold jm_ab'
  rw [jm_fk_F (jm_fl_k a), (jm_fk_ct (jm_fl_k a) i).1, (jm_fk_ct (jm_fl_k a) c).1]
theorem jm_fl_cbd {σ σ' : jw_H} (a : jm_fl σ σ') (h : jm_cbd σ) : jm_cbd σ' := by
  unfold jm_cbd
  rw [a.2 56 (by omega)]
  exact ⟨h.1, fun i i0 i1 => by
    rw [(jm_fk_ct (jm_fl_k a) i).1]
    exact h.2 i i0 i1⟩
/-- those of l that stay -/
def jm_nw (σ0 : jw_H) (l i j w : Int) : Prop := (0 ≤ w ∧ w ≤ 1048575) ∧ ∀ a : Int, 0 ≤ a → a < 20 → (jb_in w a.toNat ↔ jb_in l a.toNat ∧ ¬ ∃ c, 0 ≤ c ∧ c < σ0 103 56 ∧ jb_in l c.toNat ∧ jm_ab' σ0 c a ∧ (a < i ∨ a = i ∧ c < j))
theorem jm_nw_no {σ0 : jw_H} {l i j w : Int} (h : jm_nw σ0 l i j w) (hc : ¬ (jb_in l i.toNat ∧ jb_in l j.toNat ∧ jm_ab' σ0 j i)) : jm_nw σ0 l i (j + 1) w := by
  refine ⟨h.1, fun a a0 a1 => ?_⟩
  rw [h.2 a a0 a1]
  constructor
  · rintro ⟨h1, h2⟩
    refine ⟨h1, ?_⟩
    rintro ⟨c, c0, c1, c2, c3, c4⟩
    by_cases e : a = i ∧ c = j
    · obtain ⟨rfl, rfl⟩ := e
      exact hc ⟨h1, c2, c3⟩
    · exact h2 ⟨c, c0, c1, c2, c3, by omega⟩
  · rintro ⟨h1, h2⟩
    refine ⟨h1, ?_⟩
    rintro ⟨c, c0, c1, c2, c3, c4⟩
    exact h2 ⟨c, c0, c1, c2, c3, by omega⟩
theorem jm_nw_yes {σ0 : jw_H} {l i j w : Int} (h : jm_nw σ0 l i j w) (i0 : 0 ≤ i) (i1 : i < 20) (j0 : 0 ≤ j) (j1 : j < σ0 103 56) (h1 : jb_in l j.toNat) (h2 : jm_ab' σ0 j i) : jm_nw σ0 l i (j + 1) (jw_and w (jw_xor (jw_shl 1 i) (-1))) := by
  obtain ⟨o, ho⟩ := jm_one_in i0 i1
  obtain ⟨⟨w0, w1⟩, hw⟩ := h
  obtain ⟨s, es, sl, sb⟩ := jb_less (a := w) (b := jw_shl 1 i) w0 (by omega) o.1 (by omega)
  have hb : ∀ a : Int, 0 ≤ a → (jb_in (s : Int) a.toNat ↔ jb_in w a.toNat ∧ ¬ a = i) := fun a a0 => by
    have e1 := sb a.toNat
    have e2 := ho a.toNat
    have ea : ((a.toNat : Nat) : Int) = a := by omega
    rw [ea] at e2
    unfold jb_in at e2 ⊢
    rw [← e2, Int.toNat_natCast, e1]
    cases w.toNat.testBit a.toNat <;> cases (jw_shl 1 i).toNat.testBit a.toNat <;> simp
  refine ⟨by rw [es]; omega, fun a a0 a1 => ?_⟩
  rw [es, hb a a0, hw a a0 a1]
  constructor
  · rintro ⟨⟨h3, h4⟩, h5⟩
    refine ⟨h3, ?_⟩
    rintro ⟨c, c0, c1, c2, c3, c4⟩
    exact h4 ⟨c, c0, c1, c2, c3, by omega⟩
  · rintro ⟨h3, h4⟩
    refine ⟨⟨h3, ?_⟩, ?_⟩
    · rintro ⟨c, c0, c1, c2, c3, c4⟩
      exact h4 ⟨c, c0, c1, c2, c3, by omega⟩
    · intro e
      rw [e] at h4
      exact h4 ⟨j, j0, j1, h1, h2, by omega⟩
theorem jm_nw_row {σ0 : jw_H} {l i w : Int} (h : jm_nw σ0 l i (σ0 103 56) w) : jm_nw σ0 l (i + 1) 0 w := by
  refine ⟨h.1, fun a a0 a1 => ?_⟩
  rw [h.2 a a0 a1]
  constructor
  · rintro ⟨h1, h2⟩
    refine ⟨h1, ?_⟩
    rintro ⟨c, c0, c1, c2, c3, c4⟩
    exact h2 ⟨c, c0, c1, c2, c3, by omega⟩
  · rintro ⟨h1, h2⟩
    refine ⟨h1, ?_⟩
    rintro ⟨c, c0, c1, c2, c3, c4⟩
    exact h2 ⟨c, c0, c1, c2, c3, by omega⟩
theorem jm_nw_0 {σ0 : jw_H} {l : Int} (h : 0 ≤ l ∧ l ≤ 1048575) : jm_nw σ0 l 0 0 l := by
  refine ⟨h, fun a a0 a1 => ?_⟩
  constructor
  · intro h1
    refine ⟨h1, ?_⟩
    rintro ⟨c, c0, c1, c2, c3, c4⟩
    omega
  · exact fun h1 => h1.1
theorem jm_lay_j {n : Nat} {σ0 σ : jw_H} {D : Nat} {l i : Int} {Q : Option jw_V → jw_H → Prop} (hD : 3 ≤ D) (hP : jm_Pb σ0) (hb : jm_cbd σ0) (hF : jm_fl σ0 σ) (hl : 0 ≤ l ∧ l ≤ 1048575) (i0 : 0 ≤ i) (i1 : i < σ0 103 56) (hQ : ∀ w, jm_nw σ0 l i (σ0 103 56) w → jw_W (js_S n) D md_256 50 [some (.inr (.inr 103)), some (.inl l), some (.inl w), some (.inl i), some (.inl (σ0 103 56))] [] σ Q) : ∀ (f : Nat) {w j : Int}, 0 ≤ j → j + f = σ0 103 56 → jm_nw σ0 l i j w → jw_W (js_S n) D md_256 23 [some (.inr (.inr 103)), some (.inl l), some (.inl w), some (.inl i), some (.inl j)] [] σ Q
  | f, w, j, j0, hk, hI => by
    have ih : ∀ {w' : Int}, j < σ0 103 56 → jm_nw σ0 l i (j + 1) w' → jw_W (js_S n) D md_256 23 [some (.inr (.inr 103)), some (.inl l), some (.inl w'), some (.inl i), some (.inl (j + 1))] [] σ Q := by
      intro w' h1 h2
      match f, hk with
      | 0, hk => omega
      | f + 1, hk => exact jm_lay_j hD hP hb hF hl i0 i1 hQ f (by omega) (by omega) h2
    have e56 : σ 103 56 = σ0 103 56 := hF.2 56 (by omega)
    have hPs := jm_fk_Pb (jm_fl_k hF) hP
    have hbs := jm_fl_cbd hF hb
    have bm := hb.1
    have wr := hI.1
    refine jw_W_n 2 (i' := 25) (ls' := [some (.inr (.inr 103)), some (.inl l), some (.inl w), some (.inl i), some (.inl j)]) (st' := [.inr (.inr 103), .inl j]) rfl ?_
    refine jw_W_gf rfl rfl rfl ?_
    show jw_W (js_S n) _ md_256 26 [some (.inr (.inr 103)), some (.inl l), some (.inl w), some (.inl i), some (.inl j)] [.inl (σ 103 56), .inl j] σ _
    refine jw_W_ic rfl (by unfold jw_rg; omega) (by unfold jw_rg; omega) (fun hc1 => ?_) (fun hc1 => ?_)
    · have hc1 : j ≥ (σ 103 56) := hc1
      have hkl : j = σ0 103 56 := by omega
      subst hkl
      exact hQ w hI
    · have hc1 : ¬ (j ≥ (σ 103 56)) := hc1
      refine jw_W_n 2 (i' := 29) (ls' := [some (.inr (.inr 103)), some (.inl l), some (.inl w), some (.inl i), some (.inl j)]) (st' := [.inl i, .inl l]) rfl ?_
      refine jw_W_call (as := [.inl l, .inl i]) (rest := []) rfl rfl rfl rfl (Nat.le_of_ble_eq_true rfl) (.inl rfl) (jm_has (by omega) (by omega) (by omega) (by omega)) (by omega) ?_ rfl
      rintro r1 σ1 (⟨rfl, hs, q1⟩ | ⟨rfl, hs, q1⟩)
      · rw [hs]
        show jw_W (js_S n) _ md_256 30 [some (.inr (.inr 103)), some (.inl l), some (.inl w), some (.inl i), some (.inl j)] [.inl 1] σ _
        refine jw_W_if rfl (by unfold jw_rg; omega) (fun hc2 => ?_) (fun hc2 => ?_)
        · exact absurd hc2 (show ¬ ((1 : Int) = 0) by omega)
        · clear hc2
          refine jw_W_n 2 (i' := 33) (ls' := [some (.inr (.inr 103)), some (.inl l), some (.inl w), some (.inl i), some (.inl j)]) (st' := [.inl j, .inl l]) rfl ?_
          refine jw_W_call (as := [.inl l, .inl j]) (rest := []) rfl rfl rfl rfl (Nat.le_of_ble_eq_true rfl) (.inl rfl) (jm_has (by omega) (by omega) (by omega) (by omega)) (by omega) ?_ rfl
          rintro r1 σ1 (⟨rfl, hs, q2⟩ | ⟨rfl, hs, q2⟩)
          · rw [hs]
            show jw_W (js_S n) _ md_256 34 [some (.inr (.inr 103)), some (.inl l), some (.inl w), some (.inl i), some (.inl j)] [.inl 1] σ _
            refine jw_W_if rfl (by unfold jw_rg; omega) (fun hc3 => ?_) (fun hc3 => ?_)
            · exact absurd hc3 (show ¬ ((1 : Int) = 0) by omega)
            · clear hc3
              refine jw_W_n 3 (i' := 38) (ls' := [some (.inr (.inr 103)), some (.inl l), some (.inl w), some (.inl i), some (.inl j)]) (st' := [.inl i, .inl j, .inr (.inr 103)]) rfl ?_
              refine jw_W_call (as := [.inr (.inr 103), .inl j, .inl i]) (rest := []) rfl rfl rfl rfl (Nat.le_of_ble_eq_true rfl) (.inr rfl) (jm_isAbove hPs hbs j0 (by omega) i0 (by omega)) (by omega) ?_ rfl
              rintro r1 σ1 (⟨rfl, hs, q3⟩ | ⟨rfl, hs, q3⟩)
              · rw [hs]
                have qa : jm_ab' σ0 j i := (jm_fl_ab hF _ _).mp q3
                show jw_W (js_S n) _ md_256 39 [some (.inr (.inr 103)), some (.inl l), some (.inl w), some (.inl i), some (.inl j)] [.inl 1] σ _
                refine jw_W_if rfl (by unfold jw_rg; omega) (fun hc4 => ?_) (fun hc4 => ?_)
                · exact absurd hc4 (show ¬ ((1 : Int) = 0) by omega)
                · clear hc4
                  refine jw_W_n 10 (i' := 23) (ls' := [some (.inr (.inr 103)), some (.inl l), some (.inl (jw_and w (jw_xor (jw_shl 1 i) ((-1))))), some (.inl i), some (.inl (j + 1))]) (st' := []) rfl ?_
                  exact ih (by omega) (jm_nw_yes hI i0 (by omega) j0 (by omega) (by assumption) qa)
              · rw [hs]
                have qa : ¬ jm_ab' σ0 j i := fun h => q3 ((jm_fl_ab hF _ _).mpr h)
                show jw_W (js_S n) _ md_256 39 [some (.inr (.inr 103)), some (.inl l), some (.inl w), some (.inl i), some (.inl j)] [.inl 0] σ _
                refine jw_W_if rfl (by unfold jw_rg; omega) (fun hc5 => ?_) (fun hc5 => ?_)
                · clear hc5
                  refine jw_W_n 2 (i' := 23) (ls' := [some (.inr (.inr 103)), some (.inl l), some (.inl w), some (.inl i), some (.inl (j + 1))]) (st' := []) rfl ?_
                  exact ih (by omega) (jm_nw_no hI (fun hh => by first | exact absurd hh.1 (by assumption) | exact absurd hh.2.1 (by assumption) | exact absurd hh.2.2 (by assumption)))
                · exact absurd hc5 (show ¬ ¬ ((0 : Int) = 0) by omega)
          · rw [hs]
            show jw_W (js_S n) _ md_256 34 [some (.inr (.inr 103)), some (.inl l), some (.inl w), some (.inl i), some (.inl j)] [.inl 0] σ _
            refine jw_W_if rfl (by unfold jw_rg; omega) (fun hc6 => ?_) (fun hc6 => ?_)
            · clear hc6
              refine jw_W_n 2 (i' := 23) (ls' := [some (.inr (.inr 103)), some (.inl l), some (.inl w), some (.inl i), some (.inl (j + 1))]) (st' := []) rfl ?_
              exact ih (by omega) (jm_nw_no hI (fun hh => by first | exact absurd hh.1 (by assumption) | exact absurd hh.2.1 (by assumption) | exact absurd hh.2.2 (by assumption)))
            · exact absurd hc6 (show ¬ ¬ ((0 : Int) = 0) by omega)
      · rw [hs]
        show jw_W (js_S n) _ md_256 30 [some (.inr (.inr 103)), some (.inl l), some (.inl w), some (.inl i), some (.inl j)] [.inl 0] σ _
        refine jw_W_if rfl (by unfold jw_rg; omega) (fun hc7 => ?_) (fun hc7 => ?_)
        · clear hc7
          refine jw_W_n 2 (i' := 23) (ls' := [some (.inr (.inr 103)), some (.inl l), some (.inl w), some (.inl i), some (.inl (j + 1))]) (st' := []) rfl ?_
          exact ih (by omega) (jm_nw_no hI (fun hh => by first | exact absurd hh.1 (by assumption) | exact absurd hh.2.1 (by assumption) | exact absurd hh.2.2 (by assumption)))
        · exact absurd hc7 (show ¬ ¬ ((0 : Int) = 0) by omega)
theorem jm_lay_i {n : Nat} {σ0 σ : jw_H} {D : Nat} {l : Int} {Q : Option jw_V → jw_H → Prop} (hD : 3 ≤ D) (hP : jm_Pb σ0) (hb : jm_cbd σ0) (hF : jm_fl σ0 σ) (hl : 0 ≤ l ∧ l ≤ 1048575) (hQ : ∀ w v, jm_nw σ0 l (σ0 103 56) 0 w → jw_W (js_S n) D md_256 52 [some (.inr (.inr 103)), some (.inl l), some (.inl w), some (.inl (σ0 103 56)), v] [] σ Q) : ∀ (f : Nat) {w i : Int} {v : Option jw_V}, 0 ≤ i → i + f = σ0 103 56 → jm_nw σ0 l i 0 w → jw_W (js_S n) D md_256 17 [some (.inr (.inr 103)), some (.inl l), some (.inl w), some (.inl i), v] [] σ Q
  | f, w, i, v, i0, hk, hI => by
    have ih : ∀ {w' : Int} {v' : Option jw_V}, i < σ0 103 56 → jm_nw σ0 l (i + 1) 0 w' → jw_W (js_S n) D md_256 17 [some (.inr (.inr 103)), some (.inl l), some (.inl w'), some (.inl (i + 1)), v'] [] σ Q := by
      intro w' v' h1 h2
      match f, hk with
      | 0, hk => omega
      | f + 1, hk => exact jm_lay_i hD hP hb hF hl hQ f (by omega) (by omega) h2
    have e56 : σ 103 56 = σ0 103 56 := hF.2 56 (by omega)
    have hPs := jm_fk_Pb (jm_fl_k hF) hP
    have hbs := jm_fl_cbd hF hb
    have bm := hb.1
    refine jw_W_n 2 (i' := 19) (ls' := [some (.inr (.inr 103)), some (.inl l), some (.inl w), some (.inl i), v]) (st' := [.inr (.inr 103), .inl i]) rfl ?_
    refine jw_W_gf rfl rfl rfl ?_
    show jw_W (js_S n) _ md_256 20 [some (.inr (.inr 103)), some (.inl l), some (.inl w), some (.inl i), v] [.inl (σ 103 56), .inl i] σ _
    refine jw_W_ic rfl (by unfold jw_rg; omega) (by unfold jw_rg; omega) (fun hc1 => ?_) (fun hc1 => ?_)
    · have hc1 : i ≥ (σ 103 56) := hc1
      have hkl : i = σ0 103 56 := by omega
      subst hkl
      exact hQ w v hI
    · have hc1 : ¬ (i ≥ (σ 103 56)) := hc1
      refine jw_W_n 2 (i' := 23) (ls' := [some (.inr (.inr 103)), some (.inl l), some (.inl w), some (.inl i), some (.inl 0)]) (st' := []) rfl ?_
      refine jm_lay_j hD hP hb hF hl i0 (by omega) (fun w' hI' => ?_) (σ0 103 56).toNat (j := 0) (by omega) (by omega) hI
      refine jw_W_n 2 (i' := 17) (ls' := [some (.inr (.inr 103)), some (.inl l), some (.inl w'), some (.inl (i + 1)), some (.inl (σ0 103 56))]) (st' := []) rfl ?_
      exact ih (by omega) (jm_nw_row hI')
def jm_lz (σ0 σs : jw_H) (t w : Int) (σ : jw_H) (i : Int) : Prop := jm_fl σ0 σ ∧ σ 103 59 = t ∧ ∀ a, 0 ≤ a → a < σ0 103 56 → (a < i → jb_in w a.toNat → σ 139 a = t) ∧ (¬ (a < i ∧ jb_in w a.toNat) → σ 139 a = σs 139 a)
theorem jm_lz_yes {σ0 σs σ : jw_H} {t w i : Int} (h : jm_lz σ0 σs t w σ i) (hw : jb_in w i.toNat) : jm_lz σ0 σs t w (jw_up σ 139 i t) (i + 1) := by
  obtain ⟨h1, h2, h3⟩ := h
  refine ⟨jm_fl_up h1 (by omega), by rw [jw_up_ne _ (by omega)]; exact h2, fun a a0 a1 => ?_⟩
  by_cases e : a = i
  · subst e
    rw [jw_up_eq]
    exact ⟨fun _ _ => rfl, fun hn => absurd ⟨by omega, hw⟩ hn⟩
  · rw [jw_up_ne _ (by omega)]
    exact ⟨fun h4 h5 => (h3 a a0 a1).1 (by omega) h5, fun hn => (h3 a a0 a1).2 (fun h6 => hn ⟨by omega, h6.2⟩)⟩
theorem jm_lz_no {σ0 σs σ : jw_H} {t w i : Int} (h : jm_lz σ0 σs t w σ i) (hw : ¬ jb_in w i.toNat) : jm_lz σ0 σs t w σ (i + 1) := by
  obtain ⟨h1, h2, h3⟩ := h
  refine ⟨h1, h2, fun a a0 a1 => ⟨fun h4 h5 => ?_, fun hn => (h3 a a0 a1).2 (fun h6 => hn ⟨by omega, h6.2⟩)⟩⟩
  by_cases e : a = i
  · subst e
    exact absurd h5 hw
  · exact (h3 a a0 a1).1 (by omega) h5
theorem jm_lay_z {n : Nat} {σ0 σs : jw_H} {D : Nat} {l w t : Int} {v : Option jw_V} {Q : Option jw_V → jw_H → Prop} (hD : 1 ≤ D) (hb : jm_cbd σ0) (hw : 0 ≤ w ∧ w ≤ 1048575) (hQ : ∀ σ', jm_lz σ0 σs t w σ' (σ0 103 56) → jw_W (js_S n) D md_256 70 [some (.inr (.inr 103)), some (.inl l), some (.inl w), some (.inl (σ0 103 56)), v] [] σ' Q) : ∀ (f : Nat) {σ : jw_H} {i : Int}, 0 ≤ i → i + f = σ0 103 56 → jm_lz σ0 σs t w σ i → jw_W (js_S n) D md_256 54 [some (.inr (.inr 103)), some (.inl l), some (.inl w), some (.inl i), v] [] σ Q
  | f, σ, i, i0, hk, hI => by
    have ih : ∀ {σ' : jw_H}, i < σ0 103 56 → jm_lz σ0 σs t w σ' (i + 1) → jw_W (js_S n) D md_256 54 [some (.inr (.inr 103)), some (.inl l), some (.inl w), some (.inl (i + 1)), v] [] σ' Q := by
      intro σ' h1 h2
      match f, hk with
      | 0, hk => omega
      | f + 1, hk => exact jm_lay_z hD hb hw hQ f (by omega) (by omega) h2
    have e56 : σ 103 56 = σ0 103 56 := hI.1.2 56 (by omega)
    have bm := hb.1
    refine jw_W_n 2 (i' := 56) (ls' := [some (.inr (.inr 103)), some (.inl l), some (.inl w), some (.inl i), v]) (st' := [.inr (.inr 103), .inl i]) rfl ?_
    refine jw_W_gf rfl rfl rfl ?_
    show jw_W (js_S n) _ md_256 57 [some (.inr (.inr 103)), some (.inl l), some (.inl w), some (.inl i), v] [.inl (σ 103 56), .inl i] σ _
    refine jw_W_ic rfl (by unfold jw_rg; omega) (by unfold jw_rg; omega) (fun hc1 => ?_) (fun hc1 => ?_)
    · have hc1 : i ≥ (σ 103 56) := hc1
      have hkl : i = σ0 103 56 := by omega
      subst hkl
      exact hQ σ hI
    · have hc1 : ¬ (i ≥ (σ 103 56)) := hc1
      refine jw_W_n 2 (i' := 60) (ls' := [some (.inr (.inr 103)), some (.inl l), some (.inl w), some (.inl i), v]) (st' := [.inl i, .inl w]) rfl ?_
      refine jw_W_call (as := [.inl w, .inl i]) (rest := []) rfl rfl rfl rfl (Nat.le_of_ble_eq_true rfl) (.inl rfl) (jm_has (by omega) (by omega) (by omega) (by omega)) (by omega) ?_ rfl
      rintro r1 σ1 (⟨rfl, hs, q4⟩ | ⟨rfl, hs, q4⟩)
      · rw [hs]
        show jw_W (js_S n) _ md_256 61 [some (.inr (.inr 103)), some (.inl l), some (.inl w), some (.inl i), v] [.inl 1] σ _
        refine jw_W_if rfl (by unfold jw_rg; omega) (fun hc2 => ?_) (fun hc2 => ?_)
        · exact absurd hc2 (show ¬ ((1 : Int) = 0) by omega)
        · clear hc2
          refine jw_W_n 1 (i' := 63) (ls' := [some (.inr (.inr 103)), some (.inl l), some (.inl w), some (.inl i), v]) (st' := [.inr (.inr 103)]) rfl ?_
          refine jw_W_gf rfl rfl rfl ?_
          show jw_W (js_S n) _ md_256 64 [some (.inr (.inr 103)), some (.inl l), some (.inl w), some (.inl i), v] [.inr (.inr 139)] σ _
          refine jw_W_n 2 (i' := 66) (ls' := [some (.inr (.inr 103)), some (.inl l), some (.inl w), some (.inl i), v]) (st' := [.inr (.inr 103), .inl i, .inr (.inr 139)]) rfl ?_
          refine jw_W_gf rfl rfl rfl ?_
          show jw_W (js_S n) _ md_256 67 [some (.inr (.inr 103)), some (.inl l), some (.inl w), some (.inl i), v] [.inl (σ 103 59), .inl i, .inr (.inr 139)] σ _
          rw [hI.2.1]
          refine jw_W_is rfl (by omega) rfl (by omega) (by omega) (by omega) ?_
          refine jw_W_n 2 (i' := 54) (ls' := [some (.inr (.inr 103)), some (.inl l), some (.inl w), some (.inl (i + 1)), v]) (st' := []) rfl ?_
          exact ih (by omega) (jm_lz_yes hI (by assumption))
      · rw [hs]
        show jw_W (js_S n) _ md_256 61 [some (.inr (.inr 103)), some (.inl l), some (.inl w), some (.inl i), v] [.inl 0] σ _
        refine jw_W_if rfl (by unfold jw_rg; omega) (fun hc3 => ?_) (fun hc3 => ?_)
        · clear hc3
          refine jw_W_n 2 (i' := 54) (ls' := [some (.inr (.inr 103)), some (.inl l), some (.inl w), some (.inl (i + 1)), v]) (st' := []) rfl ?_
          exact ih (by omega) (jm_lz_no hI (by assumption))
        · exact absurd hc3 (show ¬ ¬ ((0 : Int) = 0) by omega)

/-! ===== the law, the class: factors ===== -/
theorem jl_W_n {S : List jw_S} {D : Nat} {cd : List xI} {i : Nat} {ls : jw_L} {st : List jw_V} {σ : jw_H} {Q : Option jw_V → jw_H → Prop} {x : Int} (w : jw_W S D cd i ls (.inl (jw_n x) :: st) σ Q) : jw_W S D cd i ls (.inl x :: st) σ Q := by
  have e : (Sum.inl (jw_n x) : jw_V) = Sum.inl (jw_n x) := rfl
  intro h hh
  obtain ⟨N, r, σ', h', a, b, c⟩ := w h hh
  refine ⟨N, r, σ', h', a, b, fun F f d hF hf hd => ?_⟩
  have k := c F f d hF hf hd
  rw [List.map_cons] at k ⊢
  rw [show jw_v (.inl x) = jw_v (.inl (jw_n x)) by
    show Value.int (Int32.ofInt x) = Value.int (Int32.ofInt (Int32.ofInt x).toInt)
    rw [Int32.ofInt_toInt]]
  exact k
theorem jl_n_rg (x : Int) : jw_rg (jw_n x) := by
  unfold jw_rg jw_n
  have h1 := Int32.le_toInt (Int32.ofInt x)
  have h2 := Int32.toInt_lt (Int32.ofInt x)
  omega
/-- a value read: v, and what the flag says -/
def jl_sv (b : Int → Int) (m : Int) (e : Int → Int) (V : Int → Prop) (P : Int → jl_R) (a : Int) (σ : jw_H) (r : Option jw_V) (σ' : jw_H) : Prop := ∃ v, r = some (.inl v) ∧ V v ∧ jl_X b m e σ' ∧ jl_D σ σ' ∧ (a = 0 → σ' 42 9 = σ 42 9) ∧ (σ 43 2 = 0 → σ' 43 2 = (P (σ 43 0)).1 ∧ ((P (σ 43 0)).1 = 0 → σ' 43 0 = (P (σ 43 0)).2.1 ∧ (a = 1 → ∃ d : Prop, jl_val e (P (σ 43 0)).2.2 d v ∧ (σ' 42 9 = 1 ↔ σ 42 9 = 1 ∨ d))))
/-- the method reads so, where so many may be opened yet -/
def jl_ms (n : Nat) (b : Int → Int) (m : Int) (e : Int → Int) (V : Int → Prop) (D M : Nat) (o : Int) (P : Int → jl_R) : Prop := ∀ (σ : jw_H) (a : Int), jl_X b m e σ → (a = 0 ∨ a = 1) → jw_T (js_S n) D M [.inr (.inr 42), .inl o, .inl a] σ (fun r σ' => jl_sv b m e V P a σ r σ')
section JLF
variable {b : Int → Int} {m : Int} {e : Int → Int} {V : Int → Prop} {P : Int → jl_R} {a v : Int} {σ σ' : jw_H}
/-- a fault: nothing else is wanted -/
theorem jl_sv_bad (hX : jl_X b m e σ') (hD : jl_D σ σ') (h9 : σ' 42 9 = σ 42 9) (hv : V v) (h : σ 43 2 = 0 → σ' 43 2 = (P (σ 43 0)).1 ∧ (P (σ 43 0)).1 ≠ 0) : jl_sv b m e V P a σ (some (.inl v)) σ' := ⟨v, rfl, hv, hX, hD, fun _ => h9, fun hz => ⟨(h hz).1, fun hn => absurd hn (h hz).2⟩⟩
end JLF
def jl_rgV (v : Int) : Prop := jw_rg v
def jl_bV (v : Int) : Prop := v = 0 ∨ v = 1
section JLH
variable {b : Int → Int} {m i : Int} {G : Int → jl_R} {k : Nat}
theorem jl_fac_at (h : jk_h b m i ≠ 91) : jl_fac b m G k i = jl_atom b m i := if_neg h
theorem jl_fac_5 (h : jk_h b m i = 91) (hk : k = 0) : jl_fac b m G k i = (-1000 * 5 - i, i, []) := by
  unfold jl_fac
  rw [if_pos h, if_pos hk]
theorem jl_fac_6 (h : jk_h b m i = 91) (hk : k ≠ 0) (hg : (G (i + 1)).1 ≠ 0) : jl_fac b m G k i = ((G (i + 1)).1, i, []) := by
  unfold jl_fac
  rw [if_pos h, if_neg hk, if_pos hg]
theorem jl_fac_7 (h : jk_h b m i = 91) (hk : k ≠ 0) (hg : (G (i + 1)).1 = 0) (hc : jk_h b m (G (i + 1)).2.1 = 93) : jl_fac b m G k i = (0, (G (i + 1)).2.1 + 1, (G (i + 1)).2.2) := by
  unfold jl_fac
  rw [if_pos h, if_neg hk, if_neg (not_not_intro hg), if_pos hc]
theorem jl_fac_8 (h : jk_h b m i = 91) (hk : k ≠ 0) (hg : (G (i + 1)).1 = 0) (hc : jk_h b m (G (i + 1)).2.1 ≠ 93) : jl_fac b m G k i = (-1000 * 1 - (G (i + 1)).2.1, i, []) := by
  unfold jl_fac
  rw [if_pos h, if_neg hk, if_neg (not_not_intro hg), if_neg hc]
theorem jl_atom_1 (h : ¬ (48 ≤ jk_h b m i ∧ jk_h b m i ≤ 57)) (h2 : jl_fact (jk_h b m i) < 0) : jl_atom b m i = (-1000 * 1 - i, i, []) := by
  unfold jl_atom
  rw [if_neg h, if_pos h2]
theorem jl_atom_2 (h : 48 ≤ jk_h b m i ∧ jk_h b m i ≤ 57) (h2 : 48 ≤ jk_h b m (jl_num b m 5 i 0).2 ∧ jk_h b m (jl_num b m 5 i 0).2 ≤ 57) : jl_atom b m i = (-1000 * 2 - (jl_num b m 5 i 0).2, i, []) := by
  unfold jl_atom
  rw [if_pos h, if_pos h2]
theorem jl_atom_3 (h : 48 ≤ jk_h b m i ∧ jk_h b m i ≤ 57) (h2 : ¬ (48 ≤ jk_h b m (jl_num b m 5 i 0).2 ∧ jk_h b m (jl_num b m 5 i 0).2 ≤ 57)) : jl_atom b m i = (0, (jl_num b m 5 i 0).2, [(0, (jl_num b m 5 i 0).1)]) := by
  unfold jl_atom
  rw [if_pos h, if_neg h2]
theorem jl_atom_4 (h : ¬ (48 ≤ jk_h b m i ∧ jk_h b m i ≤ 57)) (h2 : ¬ (jl_fact (jk_h b m i) < 0)) : jl_atom b m i = (0, i + 1, [(1, jl_fact (jk_h b m i))]) := by
  unfold jl_atom
  rw [if_neg h, if_neg h2]
end JLH
theorem jl_factor {n : Nat} {σ : jw_H} {b : Int → Int} {m : Int} {e : Int → Int} {G : Int → jl_R} {k D : Nat} {o : Int} (hok : o + k = 6 ∧ 0 ≤ o) (hG : k ≠ 0 → jl_ms n b m e jl_rgV D 53 (o + 1) G) (hD : 5 ≤ D) {a : Int} (hX : jl_X b m e σ) (ha : a = 0 ∨ a = 1) : jw_T (js_S n) (D + 1) 56 [.inr (.inr 42), .inl o, .inl a] σ (fun r σ' => jl_sv b m e jl_rgV (jl_fac b m G k) a σ r σ') := by
  refine jw_T_of (D := D) (M := mm_56) rfl (Nat.le_of_ble_eq_true rfl) (ls0 := [some (.inr (.inr 42)), some (.inl o), some (.inl a), none]) rfl ?_ (by rintro _ _ ⟨_, rfl, -⟩; rfl)
  have h4 := hX.2.2.1
  have h5 := hX.2.2.2.1
  have h3 := hX.2.1
  have h6 := hX.2.2.2.2.1
  have hh := jl_X_h hX h4.1
  refine jw_W_n 1 (i' := 1) (ls' := [some (.inr (.inr 42)), some (.inl o), some (.inl a), none]) (st' := [.inr (.inr 42)]) rfl ?_
  refine jw_W_gf rfl rfl rfl ?_
  show jw_W (js_S n) _ md_56 2 [some (.inr (.inr 42)), some (.inl o), some (.inl a), none] [.inr (.inr 43)] σ _
  refine jw_W_gf rfl rfl rfl ?_
  show jw_W (js_S n) _ md_56 3 [some (.inr (.inr 42)), some (.inl o), some (.inl a), none] [.inl (σ 43 2)] σ _
  refine jw_W_if rfl (by unfold jw_rg; omega) (fun hc1 => ?_) (fun hc1 => ?_)
  · have hc1 : (σ 43 2) = 0 := hc1
    refine jw_W_n 1 (i' := 7) (ls' := [some (.inr (.inr 42)), some (.inl o), some (.inl a), none]) (st' := [.inr (.inr 42)]) rfl ?_
    refine jw_W_gf rfl rfl rfl ?_
    show jw_W (js_S n) _ md_56 8 [some (.inr (.inr 42)), some (.inl o), some (.inl a), none] [.inr (.inr 43)] σ _
    refine jw_W_call (as := [.inr (.inr 43)]) (rest := []) rfl rfl rfl rfl (Nat.le_of_ble_eq_true rfl) (.inr rfl) (jl_here hX) (by omega) ?_ rfl
    rintro r1 σz ⟨rfl, hs⟩
    rw [hs]
    show jw_W (js_S n) _ md_56 9 [some (.inr (.inr 42)), some (.inl o), some (.inl a), none] [.inl (jk_h b m (σ 43 0))] σ _
    refine jw_W_n 1 (i' := 10) (ls' := [some (.inr (.inr 42)), some (.inl o), some (.inl a), none]) (st' := [.inl 91, .inl (jk_h b m (σ 43 0))]) rfl ?_
    refine jw_W_ic rfl (by unfold jw_rg; omega) (by unfold jw_rg; omega) (fun hc2 => ?_) (fun hc2 => ?_)
    · have hc2 : (jk_h b m (σ 43 0)) ≠ 91 := hc2
      refine jw_W_n 1 (i' := 31) (ls' := [some (.inr (.inr 42)), some (.inl o), some (.inl a), none]) (st' := [.inr (.inr 42)]) rfl ?_
      refine jw_W_gf rfl rfl rfl ?_
      show jw_W (js_S n) _ md_56 32 [some (.inr (.inr 42)), some (.inl o), some (.inl a), none] [.inr (.inr 43)] σ _
      refine jw_W_n 1 (i' := 33) (ls' := [some (.inr (.inr 42)), some (.inl o), some (.inl a), none]) (st' := [.inr (.inr 42), .inr (.inr 43)]) rfl ?_
      refine jw_W_gf rfl rfl rfl ?_
      show jw_W (js_S n) _ md_56 34 [some (.inr (.inr 42)), some (.inl o), some (.inl a), none] [.inr (.inr 43), .inr (.inr 43)] σ _
      refine jw_W_call (as := [.inr (.inr 43)]) (rest := [.inr (.inr 43)]) rfl rfl rfl rfl (Nat.le_of_ble_eq_true rfl) (.inr rfl) (jl_here hX) (by omega) ?_ rfl
      rintro r1 σz ⟨rfl, hs⟩
      rw [hs]
      show jw_W (js_S n) _ md_56 35 [some (.inr (.inr 42)), some (.inl o), some (.inl a), none] [.inl (jk_h b m (σ 43 0)), .inr (.inr 43)] σ _
      refine jw_W_call (as := [.inr (.inr 43), .inl (jk_h b m (σ 43 0))]) (rest := []) rfl rfl rfl rfl (Nat.le_of_ble_eq_true rfl) (.inr rfl) (jk_isDigit (jk_to_43 n) (by unfold jw_rg; omega)) (by omega) ?_ rfl
      rintro r1 σz (⟨rfl, hs, hd⟩ | ⟨rfl, hs, hd⟩)
      · rw [hs]
        have hdu := hd
        unfold jk_dg at hdu
        show jw_W (js_S n) _ md_56 36 [some (.inr (.inr 42)), some (.inl o), some (.inl a), none] [.inl 1] σ _
        refine jw_W_if rfl (by unfold jw_rg; omega) (fun hc3 => ?_) (fun hc3 => ?_)
        · exact absurd hc3 (show ¬ ((1 : Int) = 0) by omega)
        · clear hc3
          refine jw_W_n 1 (i' := 38) (ls' := [some (.inr (.inr 42)), some (.inl o), some (.inl a), none]) (st' := [.inr (.inr 42)]) rfl ?_
          refine jw_W_gf rfl rfl rfl ?_
          show jw_W (js_S n) _ md_56 39 [some (.inr (.inr 42)), some (.inl o), some (.inl a), none] [.inr (.inr 43)] σ _
          refine jw_W_n 1 (i' := 40) (ls' := [some (.inr (.inr 42)), some (.inl o), some (.inl a), none]) (st' := [.inl 5, .inr (.inr 43)]) rfl ?_
          refine jw_W_call (as := [.inr (.inr 43), .inl 5]) (rest := []) rfl rfl rfl rfl (Nat.le_of_ble_eq_true rfl) (.inr rfl) (jl_number hX hd) (by omega) ?_ rfl
          rintro r1 σ5 ⟨rfl, hs5⟩
          rename jw_H => σ5
          have hni := jl_num_in (b := b) (m := m) 5 (i := σ 43 0) (a := 0) (by omega)
          have hnr := jl_num_rg (b := b) (m := m) 5 (i := σ 43 0) (a := 0) (by omega)
          have hE5 : jl_E b m e σ σ5 := by rw [hs5]; exact jl_E_to hX (by omega)
          have hX5 := hE5.1
          have e50 : σ5 43 0 = (jl_num b m 5 (σ 43 0) 0).2 := by rw [hs5, jw_up_eq]
          have e52 : σ5 43 2 = σ 43 2 := by rw [hs5, jw_up_ne _ (by omega)]
          show jw_W (js_S n) _ md_56 41 [some (.inr (.inr 42)), some (.inl o), some (.inl a), none] [.inl ((jl_num b m 5 (σ 43 0) 0).1)] σ5 _
          refine jw_W_n 2 (i' := 43) (ls' := [some (.inr (.inr 42)), some (.inl o), some (.inl a), some (.inl ((jl_num b m 5 (σ 43 0) 0).1))]) (st' := [.inr (.inr 42)]) rfl ?_
          refine jw_W_gf rfl rfl rfl ?_
          show jw_W (js_S n) _ md_56 44 [some (.inr (.inr 42)), some (.inl o), some (.inl a), some (.inl ((jl_num b m 5 (σ 43 0) 0).1))] [.inr (.inr 43)] σ5 _
          refine jw_W_call (as := [.inr (.inr 43)]) (rest := []) rfl rfl rfl rfl (Nat.le_of_ble_eq_true rfl) (.inr rfl) (jl_refuse hX5) (by omega) ?_ rfl
          rintro r1 σ6 ⟨rfl, hE6, h60, h62⟩
          rename jw_H => σ6
          show jw_W (js_S n) _ md_56 45 [some (.inr (.inr 42)), some (.inl o), some (.inl a), some (.inl ((jl_num b m 5 (σ 43 0) 0).1))] [] σ6 _
          refine jw_W_n 1 (i' := 46) (ls' := [some (.inr (.inr 42)), some (.inl o), some (.inl a), some (.inl ((jl_num b m 5 (σ 43 0) 0).1))]) (st' := [.inl ((jl_num b m 5 (σ 43 0) 0).1)]) rfl ?_
          refine jw_W_ir rfl ?_
          have hdg := hd
          unfold jk_dg at hdg
          refine ⟨_, rfl, by show jw_rg _; unfold jw_rg; omega, hE6.1, jl_D_tr hE5.2.1 hE6.2.1, fun _ => by rw [hE6.2.2, hE5.2.2], fun hz => ?_⟩
          rw [jl_fac_at (by assumption)]
          rw [e50] at h60 h62
          rcases h62 with ⟨w1, w2⟩ | ⟨w1, w2⟩
          · unfold jk_dg at w1
            rw [jl_atom_3 hdg w1]
            exact ⟨by rw [w2, e52]; exact hz, fun _ => ⟨h60, fun _ => ⟨False, jl_val_num, by rw [hE6.2.2, hE5.2.2, or_false]⟩⟩⟩
          · unfold jk_dg at w1
            rw [jl_atom_2 hdg w1]
            have w3 := w2 (by rw [e52]; exact hz)
            exact ⟨w3, fun hn => absurd hn (by show -1000 * 2 - _ ≠ 0; omega)⟩
      · rw [hs]
        have hdu := hd
        unfold jk_dg at hdu
        show jw_W (js_S n) _ md_56 36 [some (.inr (.inr 42)), some (.inl o), some (.inl a), none] [.inl 0] σ _
        refine jw_W_if rfl (by unfold jw_rg; omega) (fun hc4 => ?_) (fun hc4 => ?_)
        · clear hc4
          refine jw_W_n 1 (i' := 48) (ls' := [some (.inr (.inr 42)), some (.inl o), some (.inl a), none]) (st' := [.inr (.inr 42)]) rfl ?_
          refine jw_W_gf rfl rfl rfl ?_
          show jw_W (js_S n) _ md_56 49 [some (.inr (.inr 42)), some (.inl o), some (.inl a), none] [.inr (.inr 43)] σ _
          refine jw_W_call (as := [.inr (.inr 43)]) (rest := []) rfl rfl rfl rfl (Nat.le_of_ble_eq_true rfl) (.inr rfl) (jl_here hX) (by omega) ?_ rfl
          rintro r1 σz ⟨rfl, hs⟩
          rw [hs]
          show jw_W (js_S n) _ md_56 50 [some (.inr (.inr 42)), some (.inl o), some (.inl a), none] [.inl (jk_h b m (σ 43 0))] σ _
          refine jw_W_if rfl (by unfold jw_rg; omega) (fun hc5 => ?_) (fun hc5 => ?_)
          · have hc5 : (jk_h b m (σ 43 0)) ≥ 0 := hc5
            refine jw_W_lds rfl ?_
            refine jw_W_n 1 (i' := 55) (ls' := [some (.inr (.inr 42)), some (.inl o), some (.inl a), none]) (st' := [.inr (.inr 42), .inr (.inr 1)]) rfl ?_
            refine jw_W_gf rfl rfl rfl ?_
            show jw_W (js_S n) _ md_56 56 [some (.inr (.inr 42)), some (.inl o), some (.inl a), none] [.inr (.inr 43), .inr (.inr 1)] σ _
            refine jw_W_call (as := [.inr (.inr 43)]) (rest := [.inr (.inr 1)]) rfl rfl rfl rfl (Nat.le_of_ble_eq_true rfl) (.inr rfl) (jl_here hX) (by omega) ?_ rfl
            rintro r1 σz ⟨rfl, hs⟩
            rw [hs]
            show jw_W (js_S n) _ md_56 57 [some (.inr (.inr 42)), some (.inl o), some (.inl a), none] [.inl (jk_h b m (σ 43 0)), .inr (.inr 1)] σ _
            refine jw_W_n 1 (i' := 58) (ls' := [some (.inr (.inr 42)), some (.inl o), some (.inl a), none]) (st' := [.inl (jw_ch (jk_h b m (σ 43 0))), .inr (.inr 1)]) rfl ?_
            rw [jl_ch (by omega)]
            refine jw_W_call (as := [.inr (.inr 1), .inl (jk_h b m (σ 43 0))]) (rest := []) rfl rfl rfl rfl (Nat.le_of_ble_eq_true rfl) (.inr rfl) (jl_indexOf hX.2.2.2.2.2.2.1 (by omega)) (by omega) ?_ rfl
            rintro r1 σz ⟨rfl, hs⟩
            rw [hs]
            have hfr := jl_fact_rg (jk_h b m (σ 43 0))
            show jw_W (js_S n) _ md_56 59 [some (.inr (.inr 42)), some (.inl o), some (.inl a), none] [.inl (jl_fact (jk_h b m (σ 43 0)))] σ _
            refine jw_W_n 2 (i' := 61) (ls' := [some (.inr (.inr 42)), some (.inl o), some (.inl a), some (.inl (jl_fact (jk_h b m (σ 43 0))))]) (st' := [.inl (jl_fact (jk_h b m (σ 43 0)))]) rfl ?_
            refine jw_W_if rfl (by unfold jw_rg; omega) (fun hc6 => ?_) (fun hc6 => ?_)
            · have hc6 : (jl_fact (jk_h b m (σ 43 0))) ≥ 0 := hc6
              refine jw_W_n 1 (i' := 72) (ls' := [some (.inr (.inr 42)), some (.inl o), some (.inl a), some (.inl (jl_fact (jk_h b m (σ 43 0))))]) (st' := [.inr (.inr 42)]) rfl ?_
              refine jw_W_gf rfl rfl rfl ?_
              show jw_W (js_S n) _ md_56 73 [some (.inr (.inr 42)), some (.inl o), some (.inl a), some (.inl (jl_fact (jk_h b m (σ 43 0))))] [.inr (.inr 43)] σ _
              refine jw_W_n 1 (i' := 74) (ls' := [some (.inr (.inr 42)), some (.inl o), some (.inl a), some (.inl (jl_fact (jk_h b m (σ 43 0))))]) (st' := [.inr (.inr 43), .inr (.inr 43)]) rfl ?_
              refine jw_W_gf rfl rfl rfl ?_
              show jw_W (js_S n) _ md_56 75 [some (.inr (.inr 42)), some (.inl o), some (.inl a), some (.inl (jl_fact (jk_h b m (σ 43 0))))] [.inl (σ 43 0), .inr (.inr 43)] σ _
              refine jw_W_n 2 (i' := 77) (ls' := [some (.inr (.inr 42)), some (.inl o), some (.inl a), some (.inl (jl_fact (jk_h b m (σ 43 0))))]) (st' := [.inl (σ 43 0 + 1), .inr (.inr 43)]) rfl ?_
              refine jw_W_pf (a := σ 43 0 + 1) rfl (by omega) rfl rfl rfl rfl rfl ?_
              refine jw_W_n 1 (i' := 79) (ls' := [some (.inr (.inr 42)), some (.inl o), some (.inl a), some (.inl (jl_fact (jk_h b m (σ 43 0))))]) (st' := [.inr (.inr 42)]) rfl ?_
              refine jw_W_gf rfl rfl rfl ?_
              show jw_W (js_S n) _ md_56 80 [some (.inr (.inr 42)), some (.inl o), some (.inl a), some (.inl (jl_fact (jk_h b m (σ 43 0))))] [.inr (.inr 46)] ((jw_up σ 43 0 (σ 43 0 + 1))) _
              refine jw_W_n 1 (i' := 81) (ls' := [some (.inr (.inr 42)), some (.inl o), some (.inl a), some (.inl (jl_fact (jk_h b m (σ 43 0))))]) (st' := [.inl (jl_fact (jk_h b m (σ 43 0))), .inr (.inr 46)]) rfl ?_
              refine jw_W_ia rfl rfl (by omega) (by omega) (by omega) ?_
              show jw_W (js_S n) _ md_56 82 [some (.inr (.inr 42)), some (.inl o), some (.inl a), some (.inl (jl_fact (jk_h b m (σ 43 0))))] [.inl (σ 46 (jl_fact (jk_h b m (σ 43 0))))] ((jw_up σ 43 0 (σ 43 0 + 1))) _
              refine jw_W_ir rfl ?_
              obtain ⟨σ8, hs8⟩ : ∃ τ : jw_H, τ = jw_up σ 43 0 (σ 43 0 + 1) := ⟨_, rfl⟩
              show jl_sv b m e jl_rgV (jl_fac b m G k) a σ _ (jw_up σ 43 0 (σ 43 0 + 1))
              rw [← hs8]
              have hE8 : jl_E b m e σ σ8 := by rw [hs8]; exact jl_E_to hX (by omega)
              have hev := hX.2.2.2.2.2.2.2 (jl_fact (jk_h b m (σ 43 0))) (by omega) (by omega)
              refine ⟨e (jl_fact (jk_h b m (σ 43 0))), by rw [← hev.1], hev.2, hE8.1, hE8.2.1, fun _ => by rw [hE8.2.2], fun hz => ?_⟩
              rw [jl_fac_at (by assumption), jl_atom_4 (by unfold jk_dg at hd; exact hd) (by omega)]
              exact ⟨by rw [hs8, jw_up_ne _ (by omega)]; exact hz, fun _ => ⟨by rw [hs8, jw_up_eq], fun _ => ⟨False, jl_val_let, by rw [hE8.2.2, or_false]⟩⟩⟩
            · have hc6 : ¬ ((jl_fact (jk_h b m (σ 43 0))) ≥ 0) := hc6
              refine jw_W_n 1 (i' := 63) (ls' := [some (.inr (.inr 42)), some (.inl o), some (.inl a), some (.inl (jl_fact (jk_h b m (σ 43 0))))]) (st' := [.inr (.inr 42)]) rfl ?_
              refine jw_W_gf rfl rfl rfl ?_
              show jw_W (js_S n) _ md_56 64 [some (.inr (.inr 42)), some (.inl o), some (.inl a), some (.inl (jl_fact (jk_h b m (σ 43 0))))] [.inr (.inr 43)] σ _
              refine jw_W_n 2 (i' := 66) (ls' := [some (.inr (.inr 42)), some (.inl o), some (.inl a), some (.inl (jl_fact (jk_h b m (σ 43 0))))]) (st' := [.inr (.inr 42), .inl 1, .inr (.inr 43)]) rfl ?_
              refine jw_W_gf rfl rfl rfl ?_
              show jw_W (js_S n) _ md_56 67 [some (.inr (.inr 42)), some (.inl o), some (.inl a), some (.inl (jl_fact (jk_h b m (σ 43 0))))] [.inr (.inr 43), .inl 1, .inr (.inr 43)] σ _
              refine jw_W_gf rfl rfl rfl ?_
              show jw_W (js_S n) _ md_56 68 [some (.inr (.inr 42)), some (.inl o), some (.inl a), some (.inl (jl_fact (jk_h b m (σ 43 0))))] [.inl (σ 43 0), .inl 1, .inr (.inr 43)] σ _
              refine jw_W_call (as := [.inr (.inr 43), .inl 1, .inl (σ 43 0)]) (rest := []) rfl rfl rfl rfl (Nat.le_of_ble_eq_true rfl) (.inr rfl) (jl_fail hX (by omega) (by omega)) (by omega) ?_ rfl
              rintro r1 σ7 ⟨rfl, hE7, h70, h72⟩
              rename jw_H => σ7
              have hfn : jl_fact (jk_h b m (σ 43 0)) < 0 := Classical.byContradiction (fun hq => by have hm : jk_h b m (σ 43 0) ≠ -1 := (fun w => hq (by rw [w]; decide)); omega)
              show jw_W (js_S n) _ md_56 69 [some (.inr (.inr 42)), some (.inl o), some (.inl a), some (.inl (jl_fact (jk_h b m (σ 43 0))))] [] σ7 _
              refine jw_W_n 1 (i' := 70) (ls' := [some (.inr (.inr 42)), some (.inl o), some (.inl a), some (.inl (jl_fact (jk_h b m (σ 43 0))))]) (st' := [.inl 0]) rfl ?_
              refine jw_W_ir rfl ?_
              exact jl_sv_bad hE7.1 hE7.2.1 (by rw [hE7.2.2]) (by show jw_rg 0; unfold jw_rg; omega) (fun hz => by rw [jl_fac_at (by assumption), jl_atom_1 (by omega) (by omega)]; exact ⟨h72 hz, by show -1000 * 1 - σ 43 0 ≠ 0; omega⟩)
          · have hc5 : ¬ ((jk_h b m (σ 43 0)) ≥ 0) := hc5
            refine jw_W_n 4 (i' := 61) (ls' := [some (.inr (.inr 42)), some (.inl o), some (.inl a), some (.inl ((-1)))]) (st' := [.inl ((-1))]) rfl ?_
            refine jw_W_if rfl (by unfold jw_rg; omega) (fun hc7 => ?_) (fun hc7 => ?_)
            · exact absurd hc7 (show ¬ ((((-1 : Int))) ≥ 0) by omega)
            · clear hc7
              refine jw_W_n 1 (i' := 63) (ls' := [some (.inr (.inr 42)), some (.inl o), some (.inl a), some (.inl ((-1)))]) (st' := [.inr (.inr 42)]) rfl ?_
              refine jw_W_gf rfl rfl rfl ?_
              show jw_W (js_S n) _ md_56 64 [some (.inr (.inr 42)), some (.inl o), some (.inl a), some (.inl ((-1)))] [.inr (.inr 43)] σ _
              refine jw_W_n 2 (i' := 66) (ls' := [some (.inr (.inr 42)), some (.inl o), some (.inl a), some (.inl ((-1)))]) (st' := [.inr (.inr 42), .inl 1, .inr (.inr 43)]) rfl ?_
              refine jw_W_gf rfl rfl rfl ?_
              show jw_W (js_S n) _ md_56 67 [some (.inr (.inr 42)), some (.inl o), some (.inl a), some (.inl ((-1)))] [.inr (.inr 43), .inl 1, .inr (.inr 43)] σ _
              refine jw_W_gf rfl rfl rfl ?_
              show jw_W (js_S n) _ md_56 68 [some (.inr (.inr 42)), some (.inl o), some (.inl a), some (.inl ((-1)))] [.inl (σ 43 0), .inl 1, .inr (.inr 43)] σ _
              refine jw_W_call (as := [.inr (.inr 43), .inl 1, .inl (σ 43 0)]) (rest := []) rfl rfl rfl rfl (Nat.le_of_ble_eq_true rfl) (.inr rfl) (jl_fail hX (by omega) (by omega)) (by omega) ?_ rfl
              rintro r1 σ7 ⟨rfl, hE7, h70, h72⟩
              rename jw_H => σ7
              have hfn : jl_fact (jk_h b m (σ 43 0)) < 0 := Classical.byContradiction (fun hq => by have hm : jk_h b m (σ 43 0) ≠ -1 := (fun w => hq (by rw [w]; decide)); omega)
              show jw_W (js_S n) _ md_56 69 [some (.inr (.inr 42)), some (.inl o), some (.inl a), some (.inl ((-1)))] [] σ7 _
              refine jw_W_n 1 (i' := 70) (ls' := [some (.inr (.inr 42)), some (.inl o), some (.inl a), some (.inl ((-1)))]) (st' := [.inl 0]) rfl ?_
              refine jw_W_ir rfl ?_
              exact jl_sv_bad hE7.1 hE7.2.1 (by rw [hE7.2.2]) (by show jw_rg 0; unfold jw_rg; omega) (fun hz => by rw [jl_fac_at (by assumption), jl_atom_1 (by omega) (by omega)]; exact ⟨h72 hz, by show -1000 * 1 - σ 43 0 ≠ 0; omega⟩)
        · exact absurd hc4 (show ¬ ¬ ((0 : Int) = 0) by omega)
    · have hc2 : (jk_h b m (σ 43 0)) = 91 := Classical.not_not.mp hc2
      refine jw_W_n 2 (i' := 13) (ls' := [some (.inr (.inr 42)), some (.inl o), some (.inl a), none]) (st' := [.inl o, .inr (.inr 42)]) rfl ?_
      refine jw_W_call (as := [.inr (.inr 42), .inl o]) (rest := []) rfl rfl rfl rfl (Nat.le_of_ble_eq_true rfl) (.inr rfl) (jl_enter hX (o := o) (by omega) (by omega)) (by omega) ?_ rfl
      rintro r1 σ1 ⟨v1, rfl, hE1, h1⟩
      rename jw_H => σ1
      have hX1 := hE1.1
      have hv1 : v1 = 0 ∨ v1 = 1 := by omega
      show jw_W (js_S n) _ md_56 14 [some (.inr (.inr 42)), some (.inl o), some (.inl a), none] [.inl v1] σ1 _
      refine jw_W_if rfl (by unfold jw_rg; omega) (fun hc8 => ?_) (fun hc8 => ?_)
      · have hc8 : v1 = 0 := hc8
        refine jw_W_n 3 (i' := 25) (ls' := [some (.inr (.inr 42)), some (.inl o), some (.inl a), some (.inl 0)]) (st' := [.inr (.inr 42)]) rfl ?_
        refine jw_W_gf rfl rfl rfl ?_
        show jw_W (js_S n) _ md_56 26 [some (.inr (.inr 42)), some (.inl o), some (.inl a), some (.inl 0)] [.inr (.inr 43)] σ1 _
        refine jw_W_n 1 (i' := 27) (ls' := [some (.inr (.inr 42)), some (.inl o), some (.inl a), some (.inl 0)]) (st' := [.inl 93, .inr (.inr 43)]) rfl ?_
        refine jw_W_call (as := [.inr (.inr 43), .inl 93]) (rest := []) rfl rfl rfl rfl (Nat.le_of_ble_eq_true rfl) (.inr rfl) (jl_expect hX1 (x := 93) (by omega)) (by omega) ?_ rfl
        rintro r1 σ4 ⟨rfl, hE3, h3⟩
        rename jw_H => σ4
        show jw_W (js_S n) _ md_56 28 [some (.inr (.inr 42)), some (.inl o), some (.inl a), some (.inl 0)] [] σ4 _
        refine jw_W_n 1 (i' := 29) (ls' := [some (.inr (.inr 42)), some (.inl o), some (.inl a), some (.inl 0)]) (st' := [.inl 0]) rfl ?_
        refine jw_W_ir rfl ?_
        refine jl_sv_bad hE3.1 (jl_D_tr hE1.2.1 hE3.2.1) (by rw [hE3.2.2, hE1.2.2]) (by show jw_rg 0; unfold jw_rg; omega) (fun hz => ?_)
        rcases h1 with ⟨u1, u2, u3⟩ | ⟨u1, u2, u3⟩
        · rw [jl_fac_5 (by assumption) (by omega)]
          have u4 := hE3.2.1.2.2.1 (by rw [u3 hz]; omega)
          exact ⟨by rw [u4, u3 hz], by show -1000 * 5 - σ 43 0 ≠ 0; omega⟩
        · omega
      · have hc8 : ¬ (v1 = 0) := hc8
        refine jw_W_n 5 (i' := 20) (ls' := [some (.inr (.inr 42)), some (.inl o), some (.inl a), none]) (st' := [.inl a, .inl (o + 1), .inr (.inr 42)]) rfl ?_
        refine jw_W_call (as := [.inr (.inr 42), .inl (o + 1), .inl a]) (rest := []) rfl rfl rfl rfl (Nat.le_of_ble_eq_true rfl) (.inr rfl) (hG (by omega) σ1 a hX1 ha) (by omega) ?_ rfl
        rintro r1 σ2 ⟨v2, rfl, hv2, hX2, hD2, h29, h22⟩
        rename jw_H => σ2
        show jw_W (js_S n) _ md_56 21 [some (.inr (.inr 42)), some (.inl o), some (.inl a), none] [.inl v2] σ2 _
        refine jw_W_n 3 (i' := 25) (ls' := [some (.inr (.inr 42)), some (.inl o), some (.inl a), some (.inl v2)]) (st' := [.inr (.inr 42)]) rfl ?_
        refine jw_W_gf rfl rfl rfl ?_
        show jw_W (js_S n) _ md_56 26 [some (.inr (.inr 42)), some (.inl o), some (.inl a), some (.inl v2)] [.inr (.inr 43)] σ2 _
        refine jw_W_n 1 (i' := 27) (ls' := [some (.inr (.inr 42)), some (.inl o), some (.inl a), some (.inl v2)]) (st' := [.inl 93, .inr (.inr 43)]) rfl ?_
        refine jw_W_call (as := [.inr (.inr 43), .inl 93]) (rest := []) rfl rfl rfl rfl (Nat.le_of_ble_eq_true rfl) (.inr rfl) (jl_expect hX2 (x := 93) (by omega)) (by omega) ?_ rfl
        rintro r1 σ3 ⟨rfl, hE3, h3⟩
        rename jw_H => σ3
        show jw_W (js_S n) _ md_56 28 [some (.inr (.inr 42)), some (.inl o), some (.inl a), some (.inl v2)] [] σ3 _
        refine jw_W_n 1 (i' := 29) (ls' := [some (.inr (.inr 42)), some (.inl o), some (.inl a), some (.inl v2)]) (st' := [.inl v2]) rfl ?_
        refine jw_W_ir rfl ?_
        have u : o < 6 ∧ σ1 43 2 = σ 43 2 ∧ σ1 43 0 = σ 43 0 + 1 := by
          rcases h1 with ⟨u1, -⟩ | ⟨-, u2⟩
          · omega
          · exact u2
        refine ⟨v2, rfl, hv2, hE3.1, jl_D_tr hE1.2.1 (jl_D_tr hD2 hE3.2.1), fun h0 => by rw [hE3.2.2, h29 h0, hE1.2.2], fun hz => ?_⟩
        obtain ⟨k1, k2⟩ := h22 (by rw [u.2.1]; exact hz)
        rw [u.2.2] at k1 k2
        have hX2a := hX2.2.2.1
        by_cases hg : (G (σ 43 0 + 1)).1 = 0
        · obtain ⟨k3, k4⟩ := k2 hg
          rcases h3 with ⟨w1, w2, w3⟩ | ⟨w1, w2⟩
          · rw [k3] at w1 w3
            rw [jl_fac_7 (by assumption) (by omega) hg w1]
            refine ⟨by rw [w2, k1]; exact hg, fun _ => ⟨w3, fun h1 => ?_⟩⟩
            obtain ⟨d, hd1, hd2⟩ := k4 h1
            exact ⟨d, hd1, by rw [hE3.2.2, hd2, hE1.2.2]⟩
          · rw [k3] at w1 w2
            rw [jl_fac_8 (by assumption) (by omega) hg w1]
            have w3 := w2 (by rw [k1]; exact hg)
            exact ⟨w3, fun hn => absurd hn (by show -1000 * 1 - _ ≠ 0; omega)⟩
        · rw [jl_fac_6 (by assumption) (by omega) hg]
          have w3 := hE3.2.1.2.2.1 (by rw [k1]; exact hg)
          exact ⟨by rw [w3, k1], fun hn => absurd hn hg⟩
  · have hc1 : ¬ ((σ 43 2) = 0) := hc1
    refine jw_W_n 1 (i' := 5) (ls' := [some (.inr (.inr 42)), some (.inl o), some (.inl a), none]) (st' := [.inl 0]) rfl ?_
    refine jw_W_ir rfl ?_
    exact jl_sv_bad hX (jl_D_rf σ) rfl (by show jw_rg 0; unfold jw_rg; omega) (fun hz => by omega)

/-! ===== a line, the class ===== -/
def jk_at (s : jw_H) (i : Int) : jw_H := jk_mk (s 0 0) i (s 0 2) (s 0 3) (s 0 4) (s 0 5) (s 1) (s 2) (s 3) (s 4) (s 5)
theorem jk_pk_at (b : Int → Int) (m : Int) (s : jw_H) (i j : Int) : jk_pk b m (jk_at s i) j = jk_pk b m s j := rfl
theorem jk_pw_at (b : Int → Int) (m sg : Int) (s : jw_H) (i j : Int) : jk_pw b m sg (jk_at s i) j = jk_pw b m sg s j := rfl
theorem jk_pbx_at (b : Int → Int) (m : Int) (s : jw_H) (i j : Int) : jk_pbx b m (jk_at s i) j = jk_pbx b m s j := rfl
theorem jk_po_at (b : Int → Int) (m : Int) (s : jw_H) (i j : Int) : jk_po b m (jk_at s i) j = jk_po b m s j := rfl
def jk_lq (b : Int → Int) (m fi : Int) (s : jw_H) (i c N : Int) : Prop := (N = 0 ∧ ¬ (c = 0 ∨ ¬ (c = 1 ↔ fi = 1)) ∧ ¬ (((c = 2 ∨ c = 3) ∧ 3 ≤ s 0 3) ∨ (c = 4 ∧ 4 ≤ s 0 4))) ∨ (N ≠ 0 ∧ jk_pl b m fi s i = jk_bad N)
section JKL
variable {n o : Nat} {b : Int → Int} {m : Int} {σ σ5 s : jw_H} {sg : Int}
theorem jk_wish_end (hX : jk_X n o b m σ) (hrl : jk_rl o σ s) (hR : jk_R n o b m σ (o + 1) (3 * σ o 1) sg (jk_sm b m (σ o 0) (σ 34 0)) σ5) : jk_rs o (jw_up σ5 o 1 (σ5 o 1 + 1)) (jk_pw b m sg s (s 0 1)) := by
  have hpo := hX.1.1
  obtain ⟨g0, g1, g2, g3, g4, g5, g6, g7, g8, g9, g10⟩ := hrl
  obtain ⟨f1, f2⟩ := hR.2.2.2.2 g0
  rw [g2, g3] at f1 f2
  have hw1 := hX.2.2.2.2.2.2.2.2.1
  have ef : ∀ j, jw_up σ5 o 1 (σ5 o 1 + 1) 34 j = σ5 34 j := fun j => by rw [jw_up_out _ _ _ (by omega)]
  by_cases hS : (jk_sm b m (s 0 2) (s 0 1)).1 = 0
  · rw [jk_pw_2 hS]
    obtain ⟨f3, f4⟩ := f2 hS
    have hc : ∀ c, c ≠ 34 → c ≠ o + 1 → ∀ j, (c ≠ o ∨ j ≠ 1) → jw_up σ5 o 1 (σ5 o 1 + 1) c j = σ c j := fun c c1 c2 j hj => by
      by_cases ho : c = o
      · rw [ho, jw_up_ne _ (by omega), hR.2.2.1 o (by omega) (by omega)]
      · rw [jw_up_out _ _ _ ho, hR.2.2.1 c c1 c2]
    have z : jw_up σ5 o 1 (σ5 o 1 + 1) 34 2 = 0 := by rw [ef, f1]; exact hS
    have e51 : σ5 o 1 = σ o 1 := by rw [hR.2.2.1 o (by omega) (by omega)]
    refine ⟨z, fun _ => ⟨z, rfl, ?_, ?_, ?_, ?_, ?_, ?_, ?_, ?_, ?_⟩⟩
    · rw [ef, f3]
      rfl
    · exact (hc o (by omega) (by omega) 0 (by omega)).trans g3
    · rw [jw_up_eq, e51, g4]
      rfl
    · exact (hc o (by omega) (by omega) 2 (by omega)).trans g5
    · exact (hc 33 (by omega) (by omega) 1 (by omega)).trans g6
    · intro j j0 j1
      have j2 : j < 3 * (s 0 3 + 1) := j1
      show _ = if j < 3 * s 0 3 then s 1 j else sg * (jk_sm b m (s 0 2) (s 0 1)).2.2 (j - 3 * s 0 3)
      rw [jw_up_out _ _ _ (by omega)]
      by_cases hj : j < 3 * s 0 3
      · rw [if_pos hj, hR.2.2.2.1 j (by omega)]
        exact g7 j j0 hj
      · rw [if_neg hj, ← f4 (j - 3 * s 0 3) (by omega) (by omega)]
        congr 1
        omega
    · exact fun j j0 j1 => (hc (o + 2) (by omega) (by omega) j (by omega)).trans (g8 j j0 j1)
    · exact fun j j0 j1 => ⟨(hc (o + 3) (by omega) (by omega) j (by omega)).trans (g9 j j0 j1).1, (hc (o + 4) (by omega) (by omega) j (by omega)).trans (g9 j j0 j1).2⟩
    · exact fun j j0 j1 => (hc (o + 5) (by omega) (by omega) j (by omega)).trans (g10 j j0 j1)
  · rw [jk_pw_1 hS]
    exact jk_rs_bad (by rw [ef, f1]) hS
/-- where the place alone goes on -/
theorem jk_rl_at {τ : jw_H} {i : Int} (hrl : jk_rl o σ s) (hp : o = 15 ∨ o = 21 ∨ o = 27) (hf : ∀ c, c ≠ 34 → τ c = σ c) (h2 : τ 34 2 = 0) (h0 : τ 34 0 = i) : jk_rl o τ (jk_at s i) := by
  obtain ⟨g0, g1, g2, g3, g4, g5, g6, g7, g8, g9, g10⟩ := hrl
  unfold jk_rl
  rw [hf o (by omega), hf 33 (by omega), hf (o + 1) (by omega), hf (o + 2) (by omega), hf (o + 3) (by omega), hf (o + 4) (by omega), hf (o + 5) (by omega)]
  exact ⟨h2, g1, h0, g3, g4, g5, g6, g7, g8, g9, g10⟩
end JKL
theorem jk_line_tail {n : Nat} {σ N : jw_H} {o : Nat} {b : Int → Int} {m : Int} {s : jw_H} (hX : jk_X n o b m σ) (hrl : σ 34 2 = 0 → jk_rl o σ s) {fi : Int} (hfi : fi = 0 ∨ fi = 1) {c e : Int} (hE : jk_E n o b m σ N) (he : jk_we b m 300 (σ 34 0) = e) (hc : jk_wk b (σ 34 0) e = c) (hNe : N 34 0 = e) (hP : σ 34 2 = 0 → jk_lq b m fi s (σ 34 0) c (N 34 2)) : jw_W (js_S n) 6 md_81 46 [some (.inr (.inr 33)), some (.inl fi), some (.inl (σ 34 0)), some (.inl c)] [] N (fun r σ' => r = none ∧ jk_X n o b m σ' ∧ jk_D o σ σ' ∧ (σ 34 2 = 0 → jk_rs o σ' (jk_pl b m fi s (σ 34 0)))) := by
  have hpo := hX.1
  have hp0 := hpo.1
  have hob : 15 ≤ o ∧ o ≤ 27 := by omega
  have htoN := hE.1.2.1
  have heN := hE.1.2.2.2.2.1
  have hc5 := jk_wk_rg b (σ 34 0) e
  rw [hc] at hc5
  refine jw_W_n 1 (i' := 47) (ls' := [some (.inr (.inr 33)), some (.inl fi), some (.inl (σ 34 0)), some (.inl c)]) (st' := [.inr (.inr 33)]) rfl ?_
  refine jw_W_gf rfl rfl rfl ?_
  show jw_W (js_S n) _ md_81 48 [some (.inr (.inr 33)), some (.inl fi), some (.inl (σ 34 0)), some (.inl c)] [.inr (.inr 34)] N _
  refine jw_W_n 1 (i' := 49) (ls' := [some (.inr (.inr 33)), some (.inl fi), some (.inl (σ 34 0)), some (.inl c)]) (st' := [.inl 58, .inr (.inr 34)]) rfl ?_
  refine jw_W_call (as := [.inr (.inr 34), .inl 58]) (rest := []) rfl rfl rfl rfl (Nat.le_of_ble_eq_true rfl) (.inr rfl) (jk_expectX hE.1 (x := 58) (by omega)) (by omega) ?_ rfl
  rintro r1 σ4 ⟨rfl, hE4, h42⟩
  rename jw_H => σ4
  rw [hNe] at h42
  have hX4 := hE4.1
  have hto4 := hX4.2.1
  have hD4 := jk_D_tr hE.2.1 hE4.2.1
  have h24 := hX4.2.2.2.2.2.2.1
  have hEE := jk_E_tr hE hE4
  have ho14 := hX4.2.2.2.2.2.2.2.2.1
  have ho24 := hX4.2.2.2.2.2.2.2.2.2.1
  show jw_W (js_S n) _ md_81 50 [some (.inr (.inr 33)), some (.inl fi), some (.inl (σ 34 0)), some (.inl c)] [] σ4 _
  refine jw_W_n 1 (i' := 51) (ls' := [some (.inr (.inr 33)), some (.inl fi), some (.inl (σ 34 0)), some (.inl c)]) (st' := [.inr (.inr 33)]) rfl ?_
  refine jw_W_gf rfl rfl rfl ?_
  show jw_W (js_S n) _ md_81 52 [some (.inr (.inr 33)), some (.inl fi), some (.inl (σ 34 0)), some (.inl c)] [.inr (.inr 34)] σ4 _
  refine jw_W_gf rfl rfl rfl ?_
  show jw_W (js_S n) _ md_81 53 [some (.inr (.inr 33)), some (.inl fi), some (.inl (σ 34 0)), some (.inl c)] [.inl (σ4 34 2)] σ4 _
  refine jw_W_if rfl (by unfold jw_rg; omega) (fun hc1 => ?_) (fun hc1 => ?_)
  · have hc1 : (σ4 34 2) = 0 := hc1
    have hzN : N 34 2 = 0 := Classical.byContradiction (fun w => by have := hE4.2.1.2.2.1 w; omega)
    have hz : σ 34 2 = 0 := Classical.byContradiction (fun w => by have := hE.2.1.2.2.1 w; omega)
    have hr := hrl hz
    have hPz := hP hz
    have h58 : jk_h b m e = 58 ∧ σ4 34 0 = e + 1 := by
      rcases h42 with ⟨u1, -, u2⟩ | ⟨-, u2⟩
      · exact ⟨u1, u2⟩
      · have := u2 hzN
        omega
    have hgd : ¬ (c = 0 ∨ ¬ (c = 1 ↔ fi = 1)) ∧ ¬ (((c = 2 ∨ c = 3) ∧ 3 ≤ s 0 3) ∨ (c = 4 ∧ 4 ≤ s 0 4)) := by
      rcases hPz with u | u
      · exact u.2
      · exact absurd hzN u.1
    have hpl := jk_pl_4 (b := b) (m := m) (first := fi) (s := s) he hc hgd.1 hgd.2 h58.1
    have hr4 : jk_rl o σ4 (jk_at s (e + 1)) := jk_rl_at hr hpo.1 hEE.2.2 (by omega) h58.2
    have e41 : σ4 o 1 = s 0 3 := hr4.2.2.2.2.1
    have e42 : σ4 o 2 = s 0 4 := hr4.2.2.2.2.2.1
    refine jw_W_n 1 (i' := 56) (ls' := [some (.inr (.inr 33)), some (.inl fi), some (.inl (σ 34 0)), some (.inl c)]) (st' := [.inl c]) rfl ?_
    refine jw_W_sw rfl (by unfold jw_rg; omega) rfl (fun hc2 => ?_) (fun hc2a hc2b t ht => ?_)
    · have hc2 : c < 1 ∨ 5 < c := hc2
      refine jw_W_n 2 (i' := 68) (ls' := [some (.inr (.inr 33)), some (.inl fi), some (.inl (σ 34 0)), some (.inl c)]) (st' := [.inr (.inr 33), .inr (.inr 33)]) rfl ?_
      refine jw_W_gf rfl rfl rfl ?_
      show jw_W (js_S n) _ md_81 69 [some (.inr (.inr 33)), some (.inl fi), some (.inl (σ 34 0)), some (.inl c)] [.inr (.inr ((σ4 33 2).toNat)), .inr (.inr 33)] σ4 _
      rw [hto4]
      refine jw_W_gf rfl hpo.2.1 rfl ?_
      show jw_W (js_S n) _ md_81 70 [some (.inr (.inr 33)), some (.inl fi), some (.inl (σ 34 0)), some (.inl c)] [.inr (.inr (o + 1)), .inr (.inr 33)] σ4 _
      refine jw_W_n 2 (i' := 72) (ls' := [some (.inr (.inr 33)), some (.inl fi), some (.inl (σ 34 0)), some (.inl c)]) (st' := [.inr (.inr 33), .inl 3, .inr (.inr (o + 1)), .inr (.inr 33)]) rfl ?_
      refine jw_W_gf rfl rfl rfl ?_
      show jw_W (js_S n) _ md_81 73 [some (.inr (.inr 33)), some (.inl fi), some (.inl (σ 34 0)), some (.inl c)] [.inr (.inr ((σ4 33 2).toNat)), .inl 3, .inr (.inr (o + 1)), .inr (.inr 33)] σ4 _
      rw [hto4]
      refine jw_W_gf rfl hpo.2.1 rfl ?_
      show jw_W (js_S n) _ md_81 74 [some (.inr (.inr 33)), some (.inl fi), some (.inl (σ 34 0)), some (.inl c)] [.inl (σ4 o 1), .inl 3, .inr (.inr (o + 1)), .inr (.inr 33)] σ4 _
      refine jw_W_n 3 (i' := 77) (ls' := [some (.inr (.inr 33)), some (.inl fi), some (.inl (σ 34 0)), some (.inl c)]) (st' := [.inl 3, .inl c, .inl (3 * (σ4 o 1)), .inr (.inr (o + 1)), .inr (.inr 33)]) rfl ?_
      refine jw_W_ic rfl (by unfold jw_rg; omega) (by unfold jw_rg; omega) (fun hc3 => ?_) (fun hc3 => ?_)
      · have hc3 : c ≠ 3 := hc3
        refine jw_W_n 1 (i' := 81) (ls' := [some (.inr (.inr 33)), some (.inl fi), some (.inl (σ 34 0)), some (.inl c)]) (st' := [.inl 1, .inl (3 * (σ4 o 1)), .inr (.inr (o + 1)), .inr (.inr 33)]) rfl ?_
        refine jw_W_call (as := [.inr (.inr 33), .inr (.inr (o + 1)), .inl (3 * (σ4 o 1)), .inl 1]) (rest := []) rfl rfl rfl rfl (Nat.le_of_ble_eq_true rfl) (.inr rfl) (jk_readSum (w := o + 1) (L := 9) ⟨by omega, hpo.2.2.1⟩ (by omega) (a := 3 * σ4 o 1) (s := 1) (by omega) (by omega) hX4) (by omega) ?_ rfl
        rintro r1 σ5 ⟨rfl, hR⟩
        rename jw_H => σ5
        have hto5 := hR.1.2.1
        have e51 : σ5 o 1 = σ4 o 1 := by rw [hR.2.2.1 o (by omega) (by omega)]
        have k6 := jk_XD_f hR.1 (j := 1) (v := σ5 o 1 + 1) (by omega)
        have hrs : jk_rs o (jw_up σ5 o 1 (σ5 o 1 + 1)) (jk_pl b m fi s (σ 34 0)) := by rw [hpl, if_neg (by omega), if_neg (by omega), if_neg (by omega), if_neg (by omega)]; exact jk_wish_end hX4 hr4 hR
        show jw_W (js_S n) _ md_81 82 [some (.inr (.inr 33)), some (.inl fi), some (.inl (σ 34 0)), some (.inl c)] [] σ5 _
        refine jw_W_n 1 (i' := 83) (ls' := [some (.inr (.inr 33)), some (.inl fi), some (.inl (σ 34 0)), some (.inl c)]) (st' := [.inr (.inr 33)]) rfl ?_
        refine jw_W_gf rfl rfl rfl ?_
        show jw_W (js_S n) _ md_81 84 [some (.inr (.inr 33)), some (.inl fi), some (.inl (σ 34 0)), some (.inl c)] [.inr (.inr ((σ5 33 2).toNat))] σ5 _
        rw [hto5]
        refine jw_W_n 1 (i' := 85) (ls' := [some (.inr (.inr 33)), some (.inl fi), some (.inl (σ 34 0)), some (.inl c)]) (st' := [.inr (.inr o), .inr (.inr o)]) rfl ?_
        refine jw_W_gf rfl hpo.2.1 rfl ?_
        show jw_W (js_S n) _ md_81 86 [some (.inr (.inr 33)), some (.inl fi), some (.inl (σ 34 0)), some (.inl c)] [.inl (σ5 o 1), .inr (.inr o)] σ5 _
        refine jw_W_n 2 (i' := 88) (ls' := [some (.inr (.inr 33)), some (.inl fi), some (.inl (σ 34 0)), some (.inl c)]) (st' := [.inl (σ5 o 1 + 1), .inr (.inr o)]) rfl ?_
        refine jw_W_pf (a := σ5 o 1 + 1) rfl (by omega) hpo.2.1 rfl rfl rfl rfl ?_
        refine jw_W_re rfl ?_
        exact ⟨rfl, k6.1, jk_D_tr hD4 (jk_D_tr hR.2.1 k6.2), fun _ => hrs⟩
      · have hc3 : c = 3 := Classical.not_not.mp hc3
        refine jw_W_n 2 (i' := 81) (ls' := [some (.inr (.inr 33)), some (.inl fi), some (.inl (σ 34 0)), some (.inl c)]) (st' := [.inl ((-1)), .inl (3 * (σ4 o 1)), .inr (.inr (o + 1)), .inr (.inr 33)]) rfl ?_
        refine jw_W_call (as := [.inr (.inr 33), .inr (.inr (o + 1)), .inl (3 * (σ4 o 1)), .inl ((-1))]) (rest := []) rfl rfl rfl rfl (Nat.le_of_ble_eq_true rfl) (.inr rfl) (jk_readSum (w := o + 1) (L := 9) ⟨by omega, hpo.2.2.1⟩ (by omega) (a := 3 * σ4 o 1) (s := -1) (by omega) (by omega) hX4) (by omega) ?_ rfl
        rintro r1 σ5 ⟨rfl, hR⟩
        rename jw_H => σ5
        have hto5 := hR.1.2.1
        have e51 : σ5 o 1 = σ4 o 1 := by rw [hR.2.2.1 o (by omega) (by omega)]
        have k6 := jk_XD_f hR.1 (j := 1) (v := σ5 o 1 + 1) (by omega)
        have hrs : jk_rs o (jw_up σ5 o 1 (σ5 o 1 + 1)) (jk_pl b m fi s (σ 34 0)) := by rw [hpl, if_neg (by omega), if_neg (by omega), if_neg (by omega), if_pos (by omega)]; exact jk_wish_end hX4 hr4 hR
        show jw_W (js_S n) _ md_81 82 [some (.inr (.inr 33)), some (.inl fi), some (.inl (σ 34 0)), some (.inl c)] [] σ5 _
        refine jw_W_n 1 (i' := 83) (ls' := [some (.inr (.inr 33)), some (.inl fi), some (.inl (σ 34 0)), some (.inl c)]) (st' := [.inr (.inr 33)]) rfl ?_
        refine jw_W_gf rfl rfl rfl ?_
        show jw_W (js_S n) _ md_81 84 [some (.inr (.inr 33)), some (.inl fi), some (.inl (σ 34 0)), some (.inl c)] [.inr (.inr ((σ5 33 2).toNat))] σ5 _
        rw [hto5]
        refine jw_W_n 1 (i' := 85) (ls' := [some (.inr (.inr 33)), some (.inl fi), some (.inl (σ 34 0)), some (.inl c)]) (st' := [.inr (.inr o), .inr (.inr o)]) rfl ?_
        refine jw_W_gf rfl hpo.2.1 rfl ?_
        show jw_W (js_S n) _ md_81 86 [some (.inr (.inr 33)), some (.inl fi), some (.inl (σ 34 0)), some (.inl c)] [.inl (σ5 o 1), .inr (.inr o)] σ5 _
        refine jw_W_n 2 (i' := 88) (ls' := [some (.inr (.inr 33)), some (.inl fi), some (.inl (σ 34 0)), some (.inl c)]) (st' := [.inl (σ5 o 1 + 1), .inr (.inr o)]) rfl ?_
        refine jw_W_pf (a := σ5 o 1 + 1) rfl (by omega) hpo.2.1 rfl rfl rfl rfl ?_
        refine jw_W_re rfl ?_
        exact ⟨rfl, k6.1, jk_D_tr hD4 (jk_D_tr hR.2.1 k6.2), fun _ => hrs⟩
    · rcases (show c = 1 ∨ c = 2 ∨ c = 3 ∨ c = 4 ∨ c = 5 by omega) with hc2 | hc2 | hc2 | hc2 | hc2
      · obtain rfl : 57 = t := by rw [hc2] at ht; exact Option.some.inj ht
        refine jw_W_n 1 (i' := 58) (ls' := [some (.inr (.inr 33)), some (.inl fi), some (.inl (σ 34 0)), some (.inl c)]) (st' := [.inr (.inr 33)]) rfl ?_
        refine jw_W_call (as := [.inr (.inr 33)]) (rest := []) rfl rfl rfl rfl (Nat.le_of_ble_eq_true rfl) (.inr rfl) (jk_readOf hX4 hr4) (by omega) ?_ rfl
        rintro r1 σ5 ⟨rfl, hX5, hD5, h5⟩
        rename jw_H => σ5
        have hrs : jk_rs o σ5 (jk_pl b m fi s (σ 34 0)) := by rw [hpl, if_pos (by omega)]; exact h5
        show jw_W (js_S n) _ md_81 59 [some (.inr (.inr 33)), some (.inl fi), some (.inl (σ 34 0)), some (.inl c)] [] σ5 _
        refine jw_W_n 1 (i' := 89) (ls' := [some (.inr (.inr 33)), some (.inl fi), some (.inl (σ 34 0)), some (.inl c)]) (st' := []) rfl ?_
        refine jw_W_re rfl ?_
        exact ⟨rfl, hX5, jk_D_tr hD4 hD5, fun _ => hrs⟩
      · obtain rfl : 66 = t := by rw [hc2] at ht; exact Option.some.inj ht
        refine jw_W_n 2 (i' := 68) (ls' := [some (.inr (.inr 33)), some (.inl fi), some (.inl (σ 34 0)), some (.inl c)]) (st' := [.inr (.inr 33), .inr (.inr 33)]) rfl ?_
        refine jw_W_gf rfl rfl rfl ?_
        show jw_W (js_S n) _ md_81 69 [some (.inr (.inr 33)), some (.inl fi), some (.inl (σ 34 0)), some (.inl c)] [.inr (.inr ((σ4 33 2).toNat)), .inr (.inr 33)] σ4 _
        rw [hto4]
        refine jw_W_gf rfl hpo.2.1 rfl ?_
        show jw_W (js_S n) _ md_81 70 [some (.inr (.inr 33)), some (.inl fi), some (.inl (σ 34 0)), some (.inl c)] [.inr (.inr (o + 1)), .inr (.inr 33)] σ4 _
        refine jw_W_n 2 (i' := 72) (ls' := [some (.inr (.inr 33)), some (.inl fi), some (.inl (σ 34 0)), some (.inl c)]) (st' := [.inr (.inr 33), .inl 3, .inr (.inr (o + 1)), .inr (.inr 33)]) rfl ?_
        refine jw_W_gf rfl rfl rfl ?_
        show jw_W (js_S n) _ md_81 73 [some (.inr (.inr 33)), some (.inl fi), some (.inl (σ 34 0)), some (.inl c)] [.inr (.inr ((σ4 33 2).toNat)), .inl 3, .inr (.inr (o + 1)), .inr (.inr 33)] σ4 _
        rw [hto4]
        refine jw_W_gf rfl hpo.2.1 rfl ?_
        show jw_W (js_S n) _ md_81 74 [some (.inr (.inr 33)), some (.inl fi), some (.inl (σ 34 0)), some (.inl c)] [.inl (σ4 o 1), .inl 3, .inr (.inr (o + 1)), .inr (.inr 33)] σ4 _
        refine jw_W_n 3 (i' := 77) (ls' := [some (.inr (.inr 33)), some (.inl fi), some (.inl (σ 34 0)), some (.inl c)]) (st' := [.inl 3, .inl c, .inl (3 * (σ4 o 1)), .inr (.inr (o + 1)), .inr (.inr 33)]) rfl ?_
        refine jw_W_ic rfl (by unfold jw_rg; omega) (by unfold jw_rg; omega) (fun hc4 => ?_) (fun hc4 => ?_)
        · have hc4 : c ≠ 3 := hc4
          refine jw_W_n 1 (i' := 81) (ls' := [some (.inr (.inr 33)), some (.inl fi), some (.inl (σ 34 0)), some (.inl c)]) (st' := [.inl 1, .inl (3 * (σ4 o 1)), .inr (.inr (o + 1)), .inr (.inr 33)]) rfl ?_
          refine jw_W_call (as := [.inr (.inr 33), .inr (.inr (o + 1)), .inl (3 * (σ4 o 1)), .inl 1]) (rest := []) rfl rfl rfl rfl (Nat.le_of_ble_eq_true rfl) (.inr rfl) (jk_readSum (w := o + 1) (L := 9) ⟨by omega, hpo.2.2.1⟩ (by omega) (a := 3 * σ4 o 1) (s := 1) (by omega) (by omega) hX4) (by omega) ?_ rfl
          rintro r1 σ5 ⟨rfl, hR⟩
          rename jw_H => σ5
          have hto5 := hR.1.2.1
          have e51 : σ5 o 1 = σ4 o 1 := by rw [hR.2.2.1 o (by omega) (by omega)]
          have k6 := jk_XD_f hR.1 (j := 1) (v := σ5 o 1 + 1) (by omega)
          have hrs : jk_rs o (jw_up σ5 o 1 (σ5 o 1 + 1)) (jk_pl b m fi s (σ 34 0)) := by rw [hpl, if_neg (by omega), if_neg (by omega), if_neg (by omega), if_neg (by omega)]; exact jk_wish_end hX4 hr4 hR
          show jw_W (js_S n) _ md_81 82 [some (.inr (.inr 33)), some (.inl fi), some (.inl (σ 34 0)), some (.inl c)] [] σ5 _
          refine jw_W_n 1 (i' := 83) (ls' := [some (.inr (.inr 33)), some (.inl fi), some (.inl (σ 34 0)), some (.inl c)]) (st' := [.inr (.inr 33)]) rfl ?_
          refine jw_W_gf rfl rfl rfl ?_
          show jw_W (js_S n) _ md_81 84 [some (.inr (.inr 33)), some (.inl fi), some (.inl (σ 34 0)), some (.inl c)] [.inr (.inr ((σ5 33 2).toNat))] σ5 _
          rw [hto5]
          refine jw_W_n 1 (i' := 85) (ls' := [some (.inr (.inr 33)), some (.inl fi), some (.inl (σ 34 0)), some (.inl c)]) (st' := [.inr (.inr o), .inr (.inr o)]) rfl ?_
          refine jw_W_gf rfl hpo.2.1 rfl ?_
          show jw_W (js_S n) _ md_81 86 [some (.inr (.inr 33)), some (.inl fi), some (.inl (σ 34 0)), some (.inl c)] [.inl (σ5 o 1), .inr (.inr o)] σ5 _
          refine jw_W_n 2 (i' := 88) (ls' := [some (.inr (.inr 33)), some (.inl fi), some (.inl (σ 34 0)), some (.inl c)]) (st' := [.inl (σ5 o 1 + 1), .inr (.inr o)]) rfl ?_
          refine jw_W_pf (a := σ5 o 1 + 1) rfl (by omega) hpo.2.1 rfl rfl rfl rfl ?_
          refine jw_W_re rfl ?_
          exact ⟨rfl, k6.1, jk_D_tr hD4 (jk_D_tr hR.2.1 k6.2), fun _ => hrs⟩
        · have hc4 : c = 3 := Classical.not_not.mp hc4
          refine jw_W_n 2 (i' := 81) (ls' := [some (.inr (.inr 33)), some (.inl fi), some (.inl (σ 34 0)), some (.inl c)]) (st' := [.inl ((-1)), .inl (3 * (σ4 o 1)), .inr (.inr (o + 1)), .inr (.inr 33)]) rfl ?_
          refine jw_W_call (as := [.inr (.inr 33), .inr (.inr (o + 1)), .inl (3 * (σ4 o 1)), .inl ((-1))]) (rest := []) rfl rfl rfl rfl (Nat.le_of_ble_eq_true rfl) (.inr rfl) (jk_readSum (w := o + 1) (L := 9) ⟨by omega, hpo.2.2.1⟩ (by omega) (a := 3 * σ4 o 1) (s := -1) (by omega) (by omega) hX4) (by omega) ?_ rfl
          rintro r1 σ5 ⟨rfl, hR⟩
          rename jw_H => σ5
          have hto5 := hR.1.2.1
          have e51 : σ5 o 1 = σ4 o 1 := by rw [hR.2.2.1 o (by omega) (by omega)]
          have k6 := jk_XD_f hR.1 (j := 1) (v := σ5 o 1 + 1) (by omega)
          have hrs : jk_rs o (jw_up σ5 o 1 (σ5 o 1 + 1)) (jk_pl b m fi s (σ 34 0)) := by rw [hpl, if_neg (by omega), if_neg (by omega), if_neg (by omega), if_pos (by omega)]; exact jk_wish_end hX4 hr4 hR
          show jw_W (js_S n) _ md_81 82 [some (.inr (.inr 33)), some (.inl fi), some (.inl (σ 34 0)), some (.inl c)] [] σ5 _
          refine jw_W_n 1 (i' := 83) (ls' := [some (.inr (.inr 33)), some (.inl fi), some (.inl (σ 34 0)), some (.inl c)]) (st' := [.inr (.inr 33)]) rfl ?_
          refine jw_W_gf rfl rfl rfl ?_
          show jw_W (js_S n) _ md_81 84 [some (.inr (.inr 33)), some (.inl fi), some (.inl (σ 34 0)), some (.inl c)] [.inr (.inr ((σ5 33 2).toNat))] σ5 _
          rw [hto5]
          refine jw_W_n 1 (i' := 85) (ls' := [some (.inr (.inr 33)), some (.inl fi), some (.inl (σ 34 0)), some (.inl c)]) (st' := [.inr (.inr o), .inr (.inr o)]) rfl ?_
          refine jw_W_gf rfl hpo.2.1 rfl ?_
          show jw_W (js_S n) _ md_81 86 [some (.inr (.inr 33)), some (.inl fi), some (.inl (σ 34 0)), some (.inl c)] [.inl (σ5 o 1), .inr (.inr o)] σ5 _
          refine jw_W_n 2 (i' := 88) (ls' := [some (.inr (.inr 33)), some (.inl fi), some (.inl (σ 34 0)), some (.inl c)]) (st' := [.inl (σ5 o 1 + 1), .inr (.inr o)]) rfl ?_
          refine jw_W_pf (a := σ5 o 1 + 1) rfl (by omega) hpo.2.1 rfl rfl rfl rfl ?_
          refine jw_W_re rfl ?_
          exact ⟨rfl, k6.1, jk_D_tr hD4 (jk_D_tr hR.2.1 k6.2), fun _ => hrs⟩
      · obtain rfl : 66 = t := by rw [hc2] at ht; exact Option.some.inj ht
        refine jw_W_n 2 (i' := 68) (ls' := [some (.inr (.inr 33)), some (.inl fi), some (.inl (σ 34 0)), some (.inl c)]) (st' := [.inr (.inr 33), .inr (.inr 33)]) rfl ?_
        refine jw_W_gf rfl rfl rfl ?_
        show jw_W (js_S n) _ md_81 69 [some (.inr (.inr 33)), some (.inl fi), some (.inl (σ 34 0)), some (.inl c)] [.inr (.inr ((σ4 33 2).toNat)), .inr (.inr 33)] σ4 _
        rw [hto4]
        refine jw_W_gf rfl hpo.2.1 rfl ?_
        show jw_W (js_S n) _ md_81 70 [some (.inr (.inr 33)), some (.inl fi), some (.inl (σ 34 0)), some (.inl c)] [.inr (.inr (o + 1)), .inr (.inr 33)] σ4 _
        refine jw_W_n 2 (i' := 72) (ls' := [some (.inr (.inr 33)), some (.inl fi), some (.inl (σ 34 0)), some (.inl c)]) (st' := [.inr (.inr 33), .inl 3, .inr (.inr (o + 1)), .inr (.inr 33)]) rfl ?_
        refine jw_W_gf rfl rfl rfl ?_
        show jw_W (js_S n) _ md_81 73 [some (.inr (.inr 33)), some (.inl fi), some (.inl (σ 34 0)), some (.inl c)] [.inr (.inr ((σ4 33 2).toNat)), .inl 3, .inr (.inr (o + 1)), .inr (.inr 33)] σ4 _
        rw [hto4]
        refine jw_W_gf rfl hpo.2.1 rfl ?_
        show jw_W (js_S n) _ md_81 74 [some (.inr (.inr 33)), some (.inl fi), some (.inl (σ 34 0)), some (.inl c)] [.inl (σ4 o 1), .inl 3, .inr (.inr (o + 1)), .inr (.inr 33)] σ4 _
        refine jw_W_n 3 (i' := 77) (ls' := [some (.inr (.inr 33)), some (.inl fi), some (.inl (σ 34 0)), some (.inl c)]) (st' := [.inl 3, .inl c, .inl (3 * (σ4 o 1)), .inr (.inr (o + 1)), .inr (.inr 33)]) rfl ?_
        refine jw_W_ic rfl (by unfold jw_rg; omega) (by unfold jw_rg; omega) (fun hc5 => ?_) (fun hc5 => ?_)
        · have hc5 : c ≠ 3 := hc5
          refine jw_W_n 1 (i' := 81) (ls' := [some (.inr (.inr 33)), some (.inl fi), some (.inl (σ 34 0)), some (.inl c)]) (st' := [.inl 1, .inl (3 * (σ4 o 1)), .inr (.inr (o + 1)), .inr (.inr 33)]) rfl ?_
          refine jw_W_call (as := [.inr (.inr 33), .inr (.inr (o + 1)), .inl (3 * (σ4 o 1)), .inl 1]) (rest := []) rfl rfl rfl rfl (Nat.le_of_ble_eq_true rfl) (.inr rfl) (jk_readSum (w := o + 1) (L := 9) ⟨by omega, hpo.2.2.1⟩ (by omega) (a := 3 * σ4 o 1) (s := 1) (by omega) (by omega) hX4) (by omega) ?_ rfl
          rintro r1 σ5 ⟨rfl, hR⟩
          rename jw_H => σ5
          have hto5 := hR.1.2.1
          have e51 : σ5 o 1 = σ4 o 1 := by rw [hR.2.2.1 o (by omega) (by omega)]
          have k6 := jk_XD_f hR.1 (j := 1) (v := σ5 o 1 + 1) (by omega)
          have hrs : jk_rs o (jw_up σ5 o 1 (σ5 o 1 + 1)) (jk_pl b m fi s (σ 34 0)) := by rw [hpl, if_neg (by omega), if_neg (by omega), if_neg (by omega), if_neg (by omega)]; exact jk_wish_end hX4 hr4 hR
          show jw_W (js_S n) _ md_81 82 [some (.inr (.inr 33)), some (.inl fi), some (.inl (σ 34 0)), some (.inl c)] [] σ5 _
          refine jw_W_n 1 (i' := 83) (ls' := [some (.inr (.inr 33)), some (.inl fi), some (.inl (σ 34 0)), some (.inl c)]) (st' := [.inr (.inr 33)]) rfl ?_
          refine jw_W_gf rfl rfl rfl ?_
          show jw_W (js_S n) _ md_81 84 [some (.inr (.inr 33)), some (.inl fi), some (.inl (σ 34 0)), some (.inl c)] [.inr (.inr ((σ5 33 2).toNat))] σ5 _
          rw [hto5]
          refine jw_W_n 1 (i' := 85) (ls' := [some (.inr (.inr 33)), some (.inl fi), some (.inl (σ 34 0)), some (.inl c)]) (st' := [.inr (.inr o), .inr (.inr o)]) rfl ?_
          refine jw_W_gf rfl hpo.2.1 rfl ?_
          show jw_W (js_S n) _ md_81 86 [some (.inr (.inr 33)), some (.inl fi), some (.inl (σ 34 0)), some (.inl c)] [.inl (σ5 o 1), .inr (.inr o)] σ5 _
          refine jw_W_n 2 (i' := 88) (ls' := [some (.inr (.inr 33)), some (.inl fi), some (.inl (σ 34 0)), some (.inl c)]) (st' := [.inl (σ5 o 1 + 1), .inr (.inr o)]) rfl ?_
          refine jw_W_pf (a := σ5 o 1 + 1) rfl (by omega) hpo.2.1 rfl rfl rfl rfl ?_
          refine jw_W_re rfl ?_
          exact ⟨rfl, k6.1, jk_D_tr hD4 (jk_D_tr hR.2.1 k6.2), fun _ => hrs⟩
        · have hc5 : c = 3 := Classical.not_not.mp hc5
          refine jw_W_n 2 (i' := 81) (ls' := [some (.inr (.inr 33)), some (.inl fi), some (.inl (σ 34 0)), some (.inl c)]) (st' := [.inl ((-1)), .inl (3 * (σ4 o 1)), .inr (.inr (o + 1)), .inr (.inr 33)]) rfl ?_
          refine jw_W_call (as := [.inr (.inr 33), .inr (.inr (o + 1)), .inl (3 * (σ4 o 1)), .inl ((-1))]) (rest := []) rfl rfl rfl rfl (Nat.le_of_ble_eq_true rfl) (.inr rfl) (jk_readSum (w := o + 1) (L := 9) ⟨by omega, hpo.2.2.1⟩ (by omega) (a := 3 * σ4 o 1) (s := -1) (by omega) (by omega) hX4) (by omega) ?_ rfl
          rintro r1 σ5 ⟨rfl, hR⟩
          rename jw_H => σ5
          have hto5 := hR.1.2.1
          have e51 : σ5 o 1 = σ4 o 1 := by rw [hR.2.2.1 o (by omega) (by omega)]
          have k6 := jk_XD_f hR.1 (j := 1) (v := σ5 o 1 + 1) (by omega)
          have hrs : jk_rs o (jw_up σ5 o 1 (σ5 o 1 + 1)) (jk_pl b m fi s (σ 34 0)) := by rw [hpl, if_neg (by omega), if_neg (by omega), if_neg (by omega), if_pos (by omega)]; exact jk_wish_end hX4 hr4 hR
          show jw_W (js_S n) _ md_81 82 [some (.inr (.inr 33)), some (.inl fi), some (.inl (σ 34 0)), some (.inl c)] [] σ5 _
          refine jw_W_n 1 (i' := 83) (ls' := [some (.inr (.inr 33)), some (.inl fi), some (.inl (σ 34 0)), some (.inl c)]) (st' := [.inr (.inr 33)]) rfl ?_
          refine jw_W_gf rfl rfl rfl ?_
          show jw_W (js_S n) _ md_81 84 [some (.inr (.inr 33)), some (.inl fi), some (.inl (σ 34 0)), some (.inl c)] [.inr (.inr ((σ5 33 2).toNat))] σ5 _
          rw [hto5]
          refine jw_W_n 1 (i' := 85) (ls' := [some (.inr (.inr 33)), some (.inl fi), some (.inl (σ 34 0)), some (.inl c)]) (st' := [.inr (.inr o), .inr (.inr o)]) rfl ?_
          refine jw_W_gf rfl hpo.2.1 rfl ?_
          show jw_W (js_S n) _ md_81 86 [some (.inr (.inr 33)), some (.inl fi), some (.inl (σ 34 0)), some (.inl c)] [.inl (σ5 o 1), .inr (.inr o)] σ5 _
          refine jw_W_n 2 (i' := 88) (ls' := [some (.inr (.inr 33)), some (.inl fi), some (.inl (σ 34 0)), some (.inl c)]) (st' := [.inl (σ5 o 1 + 1), .inr (.inr o)]) rfl ?_
          refine jw_W_pf (a := σ5 o 1 + 1) rfl (by omega) hpo.2.1 rfl rfl rfl rfl ?_
          refine jw_W_re rfl ?_
          exact ⟨rfl, k6.1, jk_D_tr hD4 (jk_D_tr hR.2.1 k6.2), fun _ => hrs⟩
      · obtain rfl : 60 = t := by rw [hc2] at ht; exact Option.some.inj ht
        refine jw_W_n 1 (i' := 61) (ls' := [some (.inr (.inr 33)), some (.inl fi), some (.inl (σ 34 0)), some (.inl c)]) (st' := [.inr (.inr 33)]) rfl ?_
        refine jw_W_call (as := [.inr (.inr 33)]) (rest := []) rfl rfl rfl rfl (Nat.le_of_ble_eq_true rfl) (.inr rfl) (jk_readKeep hX4 hr4 (by omega)) (by omega) ?_ rfl
        rintro r1 σ5 ⟨rfl, hX5, hD5, h5⟩
        rename jw_H => σ5
        have hrs : jk_rs o σ5 (jk_pl b m fi s (σ 34 0)) := by rw [hpl, if_neg (by omega), if_pos (by omega)]; exact h5
        show jw_W (js_S n) _ md_81 62 [some (.inr (.inr 33)), some (.inl fi), some (.inl (σ 34 0)), some (.inl c)] [] σ5 _
        refine jw_W_n 1 (i' := 89) (ls' := [some (.inr (.inr 33)), some (.inl fi), some (.inl (σ 34 0)), some (.inl c)]) (st' := []) rfl ?_
        refine jw_W_re rfl ?_
        exact ⟨rfl, hX5, jk_D_tr hD4 hD5, fun _ => hrs⟩
      · obtain rfl : 63 = t := by rw [hc2] at ht; exact Option.some.inj ht
        refine jw_W_n 1 (i' := 64) (ls' := [some (.inr (.inr 33)), some (.inl fi), some (.inl (σ 34 0)), some (.inl c)]) (st' := [.inr (.inr 33)]) rfl ?_
        refine jw_W_call (as := [.inr (.inr 33)]) (rest := []) rfl rfl rfl rfl (Nat.le_of_ble_eq_true rfl) (.inr rfl) (jk_readBox hX4 hr4) (by omega) ?_ rfl
        rintro r1 σ5 ⟨rfl, hX5, hD5, h5⟩
        rename jw_H => σ5
        have hrs : jk_rs o σ5 (jk_pl b m fi s (σ 34 0)) := by rw [hpl, if_neg (by omega), if_neg (by omega), if_pos (by omega)]; exact h5
        show jw_W (js_S n) _ md_81 65 [some (.inr (.inr 33)), some (.inl fi), some (.inl (σ 34 0)), some (.inl c)] [] σ5 _
        refine jw_W_n 1 (i' := 89) (ls' := [some (.inr (.inr 33)), some (.inl fi), some (.inl (σ 34 0)), some (.inl c)]) (st' := []) rfl ?_
        refine jw_W_re rfl ?_
        exact ⟨rfl, hX5, jk_D_tr hD4 hD5, fun _ => hrs⟩
  · have hc1 : ¬ ((σ4 34 2) = 0) := hc1
    refine jw_W_re rfl ?_
    refine ⟨rfl, hX4, hD4, fun hz => ?_⟩
    have hr := hrl hz
    have hPz := hP hz
    have st := hE4.2.1.2.2.1
    rcases hPz with ⟨u1, u2, u3⟩ | ⟨u1, u2⟩
    · rcases h42 with ⟨-, u4, -⟩ | ⟨u4, u5⟩
      · omega
      · rw [jk_pl_3 he hc u2 u3 u4]
        exact jk_rs_bad (u5 u1) (by have := hE.1.2.2.2.2.1; omega)
    · rw [u2]
      exact jk_rs_bad (st u1) u1
theorem jk_readLine {n : Nat} {σ : jw_H} {o : Nat} {b : Int → Int} {m : Int} {s : jw_H} (hX : jk_X n o b m σ) (hrl : σ 34 2 = 0 → jk_rl o σ s) {fi : Int} (hfi : fi = 0 ∨ fi = 1)  : jw_T (js_S n) 7 81 [.inr (.inr 33), .inl fi] σ (fun r σ' => r = none ∧ jk_X n o b m σ' ∧ jk_D o σ σ' ∧ (σ 34 2 = 0 → jk_rs o σ' (jk_pl b m fi s (σ 34 0)))) := by
  refine jw_T_of (D := 6) (M := mm_81) rfl (Nat.le_of_ble_eq_true rfl) (ls0 := [some (.inr (.inr 33)), some (.inl fi), none, none]) rfl ?_ (by rintro _ _ ⟨rfl, -⟩; rfl)
  have hto := hX.2.1
  have hpo := hX.1
  have hp0 := hpo.1
  have hob : 15 ≤ o ∧ o ≤ 27 := by omega
  have h4 := hX.2.2.2.2.1
  have h5 := hX.2.2.2.2.2.1
  have ho1 := hX.2.2.2.2.2.2.2.2.1
  have ho2 := hX.2.2.2.2.2.2.2.2.2.1
  refine jw_W_n 1 (i' := 1) (ls' := [some (.inr (.inr 33)), some (.inl fi), none, none]) (st' := [.inr (.inr 33)]) rfl ?_
  refine jw_W_gf rfl rfl rfl ?_
  show jw_W (js_S n) _ md_81 2 [some (.inr (.inr 33)), some (.inl fi), none, none] [.inr (.inr 34)] σ _
  refine jw_W_gf rfl rfl rfl ?_
  show jw_W (js_S n) _ md_81 3 [some (.inr (.inr 33)), some (.inl fi), none, none] [.inl (σ 34 0)] σ _
  refine jw_W_n 2 (i' := 5) (ls' := [some (.inr (.inr 33)), some (.inl fi), some (.inl (σ 34 0)), none]) (st' := [.inr (.inr 33)]) rfl ?_
  refine jw_W_call (as := [.inr (.inr 33)]) (rest := []) rfl rfl rfl rfl (Nat.le_of_ble_eq_true rfl) (.inr rfl) (jk_readWordX hX) (by omega) ?_ rfl
  rintro r1 σ1 ⟨rfl, hs⟩
  rename jw_H => σ1
  have hE1 : jk_E n o b m σ σ1 := by rw [hs]; exact jk_E_w hX
  generalize he : jk_we b m 300 (σ 34 0) = e at hs ⊢
  generalize hc : jk_wk b (σ 34 0) e = c
  have hc5 := jk_wk_rg b (σ 34 0) e
  rw [hc] at hc5
  have e10 : σ1 34 0 = e := by rw [hs, jw_up_eq]
  have e12 : σ1 34 2 = σ 34 2 := by rw [hs, jw_up_ne _ (by omega)]
  have hX1 := hE1.1
  have hto1 := hX1.2.1
  have eo1 : σ1 o = σ o := hE1.2.2 o (by omega)
  have eo11 := congrFun eo1 1
  have eo12 := congrFun eo1 2
  show jw_W (js_S n) _ md_81 6 [some (.inr (.inr 33)), some (.inl fi), some (.inl (σ 34 0)), none] [.inl c] σ1 _
  refine jw_W_n 2 (i' := 8) (ls' := [some (.inr (.inr 33)), some (.inl fi), some (.inl (σ 34 0)), some (.inl c)]) (st' := [.inl c]) rfl ?_
  refine jw_W_if rfl (by unfold jw_rg; omega) (fun hc1 => ?_) (fun hc1 => ?_)
  · have hc1 : c = 0 := hc1
    refine jw_W_n 1 (i' := 18) (ls' := [some (.inr (.inr 33)), some (.inl fi), some (.inl (σ 34 0)), some (.inl c)]) (st' := [.inr (.inr 33)]) rfl ?_
    refine jw_W_gf rfl rfl rfl ?_
    show jw_W (js_S n) _ md_81 19 [some (.inr (.inr 33)), some (.inl fi), some (.inl (σ 34 0)), some (.inl c)] [.inr (.inr 34)] σ1 _
    refine jw_W_n 2 (i' := 21) (ls' := [some (.inr (.inr 33)), some (.inl fi), some (.inl (σ 34 0)), some (.inl c)]) (st' := [.inl (σ 34 0), .inl 1, .inr (.inr 34)]) rfl ?_
    refine jw_W_call (as := [.inr (.inr 34), .inl 1, .inl (σ 34 0)]) (rest := []) rfl rfl rfl rfl (Nat.le_of_ble_eq_true rfl) (.inr rfl) (jk_failX hX1 (by omega) (by omega)) (by omega) ?_ rfl
    rintro r1 σ2 ⟨rfl, hE2, h20, h22⟩
    rename jw_H => σ2
    have hX2 := hE2.1
    have hto2 := hX2.2.1
    have eo2 : σ2 o = σ o := (hE2.2.2 o (by omega)).trans eo1
    have eo21 := congrFun eo2 1
    have eo22 := congrFun eo2 2
    have hbad : c = 0 ∨ ¬ (c = 1 ↔ fi = 1) := by omega
    show jw_W (js_S n) _ md_81 22 [some (.inr (.inr 33)), some (.inl fi), some (.inl (σ 34 0)), some (.inl c)] [] σ2 _
    refine jw_W_n 2 (i' := 24) (ls' := [some (.inr (.inr 33)), some (.inl fi), some (.inl (σ 34 0)), some (.inl c)]) (st' := [.inl 2, .inl c]) rfl ?_
    refine jw_W_ic rfl (by unfold jw_rg; omega) (by unfold jw_rg; omega) (fun hc2 => ?_) (fun hc2 => ?_)
    · have hc2 : c = 2 := hc2
      refine jw_W_n 1 (i' := 29) (ls' := [some (.inr (.inr 33)), some (.inl fi), some (.inl (σ 34 0)), some (.inl c)]) (st' := [.inr (.inr 33)]) rfl ?_
      refine jw_W_gf rfl rfl rfl ?_
      show jw_W (js_S n) _ md_81 30 [some (.inr (.inr 33)), some (.inl fi), some (.inl (σ 34 0)), some (.inl c)] [.inr (.inr ((σ2 33 2).toNat))] σ2 _
      rw [hto2]
      refine jw_W_gf rfl hpo.2.1 rfl ?_
      show jw_W (js_S n) _ md_81 31 [some (.inr (.inr 33)), some (.inl fi), some (.inl (σ 34 0)), some (.inl c)] [.inl (σ2 o 1)] σ2 _
      refine jw_W_n 1 (i' := 32) (ls' := [some (.inr (.inr 33)), some (.inl fi), some (.inl (σ 34 0)), some (.inl c)]) (st' := [.inl 3, .inl (σ2 o 1)]) rfl ?_
      refine jw_W_ic rfl (by unfold jw_rg; omega) (by unfold jw_rg; omega) (fun hc3 => ?_) (fun hc3 => ?_)
      · have hc3 : (σ2 o 1) ≥ 3 := hc3
        refine jw_W_n 1 (i' := 42) (ls' := [some (.inr (.inr 33)), some (.inl fi), some (.inl (σ 34 0)), some (.inl c)]) (st' := [.inr (.inr 33)]) rfl ?_
        refine jw_W_gf rfl rfl rfl ?_
        show jw_W (js_S n) _ md_81 43 [some (.inr (.inr 33)), some (.inl fi), some (.inl (σ 34 0)), some (.inl c)] [.inr (.inr 34)] σ2 _
        refine jw_W_n 2 (i' := 45) (ls' := [some (.inr (.inr 33)), some (.inl fi), some (.inl (σ 34 0)), some (.inl c)]) (st' := [.inl (σ 34 0), .inl 4, .inr (.inr 34)]) rfl ?_
        refine jw_W_call (as := [.inr (.inr 34), .inl 4, .inl (σ 34 0)]) (rest := []) rfl rfl rfl rfl (Nat.le_of_ble_eq_true rfl) (.inr rfl) (jk_failX hX2 (by omega) (by omega)) (by omega) ?_ rfl
        rintro r1 σ23 ⟨rfl, hE3, h30, h32⟩
        rename jw_H => σ23
        show jw_W (js_S n) _ md_81 46 [some (.inr (.inr 33)), some (.inl fi), some (.inl (σ 34 0)), some (.inl c)] [] σ23 _
        exact jk_line_tail hX hrl hfi (jk_E_tr hE1 (jk_E_tr hE2 hE3)) he hc (h30.trans (h20.trans e10)) (fun hz => .inr (by have h22z := h22 (e12.trans hz); have h32z := hE3.2.1.2.2.1 (by omega); exact ⟨by omega, by rw [h32z, h22z]; exact jk_pl_1 he hc hbad⟩))
      · have hc3 : ¬ ((σ2 o 1) ≥ 3) := hc3
        refine jw_W_n 2 (i' := 35) (ls' := [some (.inr (.inr 33)), some (.inl fi), some (.inl (σ 34 0)), some (.inl c)]) (st' := [.inl 4, .inl c]) rfl ?_
        refine jw_W_ic rfl (by unfold jw_rg; omega) (by unfold jw_rg; omega) (fun hc4 => ?_) (fun hc4 => ?_)
        · have hc4 : c ≠ 4 := hc4
          exact jk_line_tail hX hrl hfi (jk_E_tr hE1 hE2) he hc (h20.trans e10) (fun hz => .inr (by have h22z := h22 (e12.trans hz); exact ⟨by omega, by rw [h22z]; exact jk_pl_1 he hc hbad⟩))
        · have hc4 : c = 4 := Classical.not_not.mp hc4
          refine jw_W_n 1 (i' := 37) (ls' := [some (.inr (.inr 33)), some (.inl fi), some (.inl (σ 34 0)), some (.inl c)]) (st' := [.inr (.inr 33)]) rfl ?_
          refine jw_W_gf rfl rfl rfl ?_
          show jw_W (js_S n) _ md_81 38 [some (.inr (.inr 33)), some (.inl fi), some (.inl (σ 34 0)), some (.inl c)] [.inr (.inr ((σ2 33 2).toNat))] σ2 _
          rw [hto2]
          refine jw_W_gf rfl hpo.2.1 rfl ?_
          show jw_W (js_S n) _ md_81 39 [some (.inr (.inr 33)), some (.inl fi), some (.inl (σ 34 0)), some (.inl c)] [.inl (σ2 o 2)] σ2 _
          refine jw_W_n 1 (i' := 40) (ls' := [some (.inr (.inr 33)), some (.inl fi), some (.inl (σ 34 0)), some (.inl c)]) (st' := [.inl 4, .inl (σ2 o 2)]) rfl ?_
          refine jw_W_ic rfl (by unfold jw_rg; omega) (by unfold jw_rg; omega) (fun hc5 => ?_) (fun hc5 => ?_)
          · have hc5 : (σ2 o 2) < 4 := hc5
            exact jk_line_tail hX hrl hfi (jk_E_tr hE1 hE2) he hc (h20.trans e10) (fun hz => .inr (by have h22z := h22 (e12.trans hz); exact ⟨by omega, by rw [h22z]; exact jk_pl_1 he hc hbad⟩))
          · have hc5 : ¬ ((σ2 o 2) < 4) := hc5
            refine jw_W_n 1 (i' := 42) (ls' := [some (.inr (.inr 33)), some (.inl fi), some (.inl (σ 34 0)), some (.inl c)]) (st' := [.inr (.inr 33)]) rfl ?_
            refine jw_W_gf rfl rfl rfl ?_
            show jw_W (js_S n) _ md_81 43 [some (.inr (.inr 33)), some (.inl fi), some (.inl (σ 34 0)), some (.inl c)] [.inr (.inr 34)] σ2 _
            refine jw_W_n 2 (i' := 45) (ls' := [some (.inr (.inr 33)), some (.inl fi), some (.inl (σ 34 0)), some (.inl c)]) (st' := [.inl (σ 34 0), .inl 4, .inr (.inr 34)]) rfl ?_
            refine jw_W_call (as := [.inr (.inr 34), .inl 4, .inl (σ 34 0)]) (rest := []) rfl rfl rfl rfl (Nat.le_of_ble_eq_true rfl) (.inr rfl) (jk_failX hX2 (by omega) (by omega)) (by omega) ?_ rfl
            rintro r1 σ23 ⟨rfl, hE3, h30, h32⟩
            rename jw_H => σ23
            show jw_W (js_S n) _ md_81 46 [some (.inr (.inr 33)), some (.inl fi), some (.inl (σ 34 0)), some (.inl c)] [] σ23 _
            exact jk_line_tail hX hrl hfi (jk_E_tr hE1 (jk_E_tr hE2 hE3)) he hc (h30.trans (h20.trans e10)) (fun hz => .inr (by have h22z := h22 (e12.trans hz); have h32z := hE3.2.1.2.2.1 (by omega); exact ⟨by omega, by rw [h32z, h22z]; exact jk_pl_1 he hc hbad⟩))
    · have hc2 : ¬ (c = 2) := hc2
      refine jw_W_n 2 (i' := 27) (ls' := [some (.inr (.inr 33)), some (.inl fi), some (.inl (σ 34 0)), some (.inl c)]) (st' := [.inl 3, .inl c]) rfl ?_
      refine jw_W_ic rfl (by unfold jw_rg; omega) (by unfold jw_rg; omega) (fun hc6 => ?_) (fun hc6 => ?_)
      · have hc6 : c ≠ 3 := hc6
        refine jw_W_n 2 (i' := 35) (ls' := [some (.inr (.inr 33)), some (.inl fi), some (.inl (σ 34 0)), some (.inl c)]) (st' := [.inl 4, .inl c]) rfl ?_
        refine jw_W_ic rfl (by unfold jw_rg; omega) (by unfold jw_rg; omega) (fun hc7 => ?_) (fun hc7 => ?_)
        · have hc7 : c ≠ 4 := hc7
          exact jk_line_tail hX hrl hfi (jk_E_tr hE1 hE2) he hc (h20.trans e10) (fun hz => .inr (by have h22z := h22 (e12.trans hz); exact ⟨by omega, by rw [h22z]; exact jk_pl_1 he hc hbad⟩))
        · have hc7 : c = 4 := Classical.not_not.mp hc7
          refine jw_W_n 1 (i' := 37) (ls' := [some (.inr (.inr 33)), some (.inl fi), some (.inl (σ 34 0)), some (.inl c)]) (st' := [.inr (.inr 33)]) rfl ?_
          refine jw_W_gf rfl rfl rfl ?_
          show jw_W (js_S n) _ md_81 38 [some (.inr (.inr 33)), some (.inl fi), some (.inl (σ 34 0)), some (.inl c)] [.inr (.inr ((σ2 33 2).toNat))] σ2 _
          rw [hto2]
          refine jw_W_gf rfl hpo.2.1 rfl ?_
          show jw_W (js_S n) _ md_81 39 [some (.inr (.inr 33)), some (.inl fi), some (.inl (σ 34 0)), some (.inl c)] [.inl (σ2 o 2)] σ2 _
          refine jw_W_n 1 (i' := 40) (ls' := [some (.inr (.inr 33)), some (.inl fi), some (.inl (σ 34 0)), some (.inl c)]) (st' := [.inl 4, .inl (σ2 o 2)]) rfl ?_
          refine jw_W_ic rfl (by unfold jw_rg; omega) (by unfold jw_rg; omega) (fun hc8 => ?_) (fun hc8 => ?_)
          · have hc8 : (σ2 o 2) < 4 := hc8
            exact jk_line_tail hX hrl hfi (jk_E_tr hE1 hE2) he hc (h20.trans e10) (fun hz => .inr (by have h22z := h22 (e12.trans hz); exact ⟨by omega, by rw [h22z]; exact jk_pl_1 he hc hbad⟩))
          · have hc8 : ¬ ((σ2 o 2) < 4) := hc8
            refine jw_W_n 1 (i' := 42) (ls' := [some (.inr (.inr 33)), some (.inl fi), some (.inl (σ 34 0)), some (.inl c)]) (st' := [.inr (.inr 33)]) rfl ?_
            refine jw_W_gf rfl rfl rfl ?_
            show jw_W (js_S n) _ md_81 43 [some (.inr (.inr 33)), some (.inl fi), some (.inl (σ 34 0)), some (.inl c)] [.inr (.inr 34)] σ2 _
            refine jw_W_n 2 (i' := 45) (ls' := [some (.inr (.inr 33)), some (.inl fi), some (.inl (σ 34 0)), some (.inl c)]) (st' := [.inl (σ 34 0), .inl 4, .inr (.inr 34)]) rfl ?_
            refine jw_W_call (as := [.inr (.inr 34), .inl 4, .inl (σ 34 0)]) (rest := []) rfl rfl rfl rfl (Nat.le_of_ble_eq_true rfl) (.inr rfl) (jk_failX hX2 (by omega) (by omega)) (by omega) ?_ rfl
            rintro r1 σ23 ⟨rfl, hE3, h30, h32⟩
            rename jw_H => σ23
            show jw_W (js_S n) _ md_81 46 [some (.inr (.inr 33)), some (.inl fi), some (.inl (σ 34 0)), some (.inl c)] [] σ23 _
            exact jk_line_tail hX hrl hfi (jk_E_tr hE1 (jk_E_tr hE2 hE3)) he hc (h30.trans (h20.trans e10)) (fun hz => .inr (by have h22z := h22 (e12.trans hz); have h32z := hE3.2.1.2.2.1 (by omega); exact ⟨by omega, by rw [h32z, h22z]; exact jk_pl_1 he hc hbad⟩))
      · have hc6 : c = 3 := Classical.not_not.mp hc6
        refine jw_W_n 1 (i' := 29) (ls' := [some (.inr (.inr 33)), some (.inl fi), some (.inl (σ 34 0)), some (.inl c)]) (st' := [.inr (.inr 33)]) rfl ?_
        refine jw_W_gf rfl rfl rfl ?_
        show jw_W (js_S n) _ md_81 30 [some (.inr (.inr 33)), some (.inl fi), some (.inl (σ 34 0)), some (.inl c)] [.inr (.inr ((σ2 33 2).toNat))] σ2 _
        rw [hto2]
        refine jw_W_gf rfl hpo.2.1 rfl ?_
        show jw_W (js_S n) _ md_81 31 [some (.inr (.inr 33)), some (.inl fi), some (.inl (σ 34 0)), some (.inl c)] [.inl (σ2 o 1)] σ2 _
        refine jw_W_n 1 (i' := 32) (ls' := [some (.inr (.inr 33)), some (.inl fi), some (.inl (σ 34 0)), some (.inl c)]) (st' := [.inl 3, .inl (σ2 o 1)]) rfl ?_
        refine jw_W_ic rfl (by unfold jw_rg; omega) (by unfold jw_rg; omega) (fun hc9 => ?_) (fun hc9 => ?_)
        · have hc9 : (σ2 o 1) ≥ 3 := hc9
          refine jw_W_n 1 (i' := 42) (ls' := [some (.inr (.inr 33)), some (.inl fi), some (.inl (σ 34 0)), some (.inl c)]) (st' := [.inr (.inr 33)]) rfl ?_
          refine jw_W_gf rfl rfl rfl ?_
          show jw_W (js_S n) _ md_81 43 [some (.inr (.inr 33)), some (.inl fi), some (.inl (σ 34 0)), some (.inl c)] [.inr (.inr 34)] σ2 _
          refine jw_W_n 2 (i' := 45) (ls' := [some (.inr (.inr 33)), some (.inl fi), some (.inl (σ 34 0)), some (.inl c)]) (st' := [.inl (σ 34 0), .inl 4, .inr (.inr 34)]) rfl ?_
          refine jw_W_call (as := [.inr (.inr 34), .inl 4, .inl (σ 34 0)]) (rest := []) rfl rfl rfl rfl (Nat.le_of_ble_eq_true rfl) (.inr rfl) (jk_failX hX2 (by omega) (by omega)) (by omega) ?_ rfl
          rintro r1 σ23 ⟨rfl, hE3, h30, h32⟩
          rename jw_H => σ23
          show jw_W (js_S n) _ md_81 46 [some (.inr (.inr 33)), some (.inl fi), some (.inl (σ 34 0)), some (.inl c)] [] σ23 _
          exact jk_line_tail hX hrl hfi (jk_E_tr hE1 (jk_E_tr hE2 hE3)) he hc (h30.trans (h20.trans e10)) (fun hz => .inr (by have h22z := h22 (e12.trans hz); have h32z := hE3.2.1.2.2.1 (by omega); exact ⟨by omega, by rw [h32z, h22z]; exact jk_pl_1 he hc hbad⟩))
        · have hc9 : ¬ ((σ2 o 1) ≥ 3) := hc9
          refine jw_W_n 2 (i' := 35) (ls' := [some (.inr (.inr 33)), some (.inl fi), some (.inl (σ 34 0)), some (.inl c)]) (st' := [.inl 4, .inl c]) rfl ?_
          refine jw_W_ic rfl (by unfold jw_rg; omega) (by unfold jw_rg; omega) (fun hc10 => ?_) (fun hc10 => ?_)
          · have hc10 : c ≠ 4 := hc10
            exact jk_line_tail hX hrl hfi (jk_E_tr hE1 hE2) he hc (h20.trans e10) (fun hz => .inr (by have h22z := h22 (e12.trans hz); exact ⟨by omega, by rw [h22z]; exact jk_pl_1 he hc hbad⟩))
          · have hc10 : c = 4 := Classical.not_not.mp hc10
            refine jw_W_n 1 (i' := 37) (ls' := [some (.inr (.inr 33)), some (.inl fi), some (.inl (σ 34 0)), some (.inl c)]) (st' := [.inr (.inr 33)]) rfl ?_
            refine jw_W_gf rfl rfl rfl ?_
            show jw_W (js_S n) _ md_81 38 [some (.inr (.inr 33)), some (.inl fi), some (.inl (σ 34 0)), some (.inl c)] [.inr (.inr ((σ2 33 2).toNat))] σ2 _
            rw [hto2]
            refine jw_W_gf rfl hpo.2.1 rfl ?_
            show jw_W (js_S n) _ md_81 39 [some (.inr (.inr 33)), some (.inl fi), some (.inl (σ 34 0)), some (.inl c)] [.inl (σ2 o 2)] σ2 _
            refine jw_W_n 1 (i' := 40) (ls' := [some (.inr (.inr 33)), some (.inl fi), some (.inl (σ 34 0)), some (.inl c)]) (st' := [.inl 4, .inl (σ2 o 2)]) rfl ?_
            refine jw_W_ic rfl (by unfold jw_rg; omega) (by unfold jw_rg; omega) (fun hc11 => ?_) (fun hc11 => ?_)
            · have hc11 : (σ2 o 2) < 4 := hc11
              exact jk_line_tail hX hrl hfi (jk_E_tr hE1 hE2) he hc (h20.trans e10) (fun hz => .inr (by have h22z := h22 (e12.trans hz); exact ⟨by omega, by rw [h22z]; exact jk_pl_1 he hc hbad⟩))
            · have hc11 : ¬ ((σ2 o 2) < 4) := hc11
              refine jw_W_n 1 (i' := 42) (ls' := [some (.inr (.inr 33)), some (.inl fi), some (.inl (σ 34 0)), some (.inl c)]) (st' := [.inr (.inr 33)]) rfl ?_
              refine jw_W_gf rfl rfl rfl ?_
              show jw_W (js_S n) _ md_81 43 [some (.inr (.inr 33)), some (.inl fi), some (.inl (σ 34 0)), some (.inl c)] [.inr (.inr 34)] σ2 _
              refine jw_W_n 2 (i' := 45) (ls' := [some (.inr (.inr 33)), some (.inl fi), some (.inl (σ 34 0)), some (.inl c)]) (st' := [.inl (σ 34 0), .inl 4, .inr (.inr 34)]) rfl ?_
              refine jw_W_call (as := [.inr (.inr 34), .inl 4, .inl (σ 34 0)]) (rest := []) rfl rfl rfl rfl (Nat.le_of_ble_eq_true rfl) (.inr rfl) (jk_failX hX2 (by omega) (by omega)) (by omega) ?_ rfl
              rintro r1 σ23 ⟨rfl, hE3, h30, h32⟩
              rename jw_H => σ23
              show jw_W (js_S n) _ md_81 46 [some (.inr (.inr 33)), some (.inl fi), some (.inl (σ 34 0)), some (.inl c)] [] σ23 _
              exact jk_line_tail hX hrl hfi (jk_E_tr hE1 (jk_E_tr hE2 hE3)) he hc (h30.trans (h20.trans e10)) (fun hz => .inr (by have h22z := h22 (e12.trans hz); have h32z := hE3.2.1.2.2.1 (by omega); exact ⟨by omega, by rw [h32z, h22z]; exact jk_pl_1 he hc hbad⟩))
  · have hc1 : ¬ (c = 0) := hc1
    refine jw_W_n 2 (i' := 11) (ls' := [some (.inr (.inr 33)), some (.inl fi), some (.inl (σ 34 0)), some (.inl c)]) (st' := [.inl 1, .inl c]) rfl ?_
    refine jw_W_ic rfl (by unfold jw_rg; omega) (by unfold jw_rg; omega) (fun hc12 => ?_) (fun hc12 => ?_)
    · have hc12 : c ≠ 1 := hc12
      refine jw_W_n 2 (i' := 16) (ls' := [some (.inr (.inr 33)), some (.inl fi), some (.inl (σ 34 0)), some (.inl c)]) (st' := [.inl fi, .inl 0]) rfl ?_
      refine jw_W_ic rfl (by unfold jw_rg; omega) (by unfold jw_rg; omega) (fun hc13 => ?_) (fun hc13 => ?_)
      · have hc13 : 0 = fi := hc13
        refine jw_W_n 2 (i' := 24) (ls' := [some (.inr (.inr 33)), some (.inl fi), some (.inl (σ 34 0)), some (.inl c)]) (st' := [.inl 2, .inl c]) rfl ?_
        refine jw_W_ic rfl (by unfold jw_rg; omega) (by unfold jw_rg; omega) (fun hc14 => ?_) (fun hc14 => ?_)
        · have hc14 : c = 2 := hc14
          refine jw_W_n 1 (i' := 29) (ls' := [some (.inr (.inr 33)), some (.inl fi), some (.inl (σ 34 0)), some (.inl c)]) (st' := [.inr (.inr 33)]) rfl ?_
          refine jw_W_gf rfl rfl rfl ?_
          show jw_W (js_S n) _ md_81 30 [some (.inr (.inr 33)), some (.inl fi), some (.inl (σ 34 0)), some (.inl c)] [.inr (.inr ((σ1 33 2).toNat))] σ1 _
          rw [hto1]
          refine jw_W_gf rfl hpo.2.1 rfl ?_
          show jw_W (js_S n) _ md_81 31 [some (.inr (.inr 33)), some (.inl fi), some (.inl (σ 34 0)), some (.inl c)] [.inl (σ1 o 1)] σ1 _
          refine jw_W_n 1 (i' := 32) (ls' := [some (.inr (.inr 33)), some (.inl fi), some (.inl (σ 34 0)), some (.inl c)]) (st' := [.inl 3, .inl (σ1 o 1)]) rfl ?_
          refine jw_W_ic rfl (by unfold jw_rg; omega) (by unfold jw_rg; omega) (fun hc15 => ?_) (fun hc15 => ?_)
          · have hc15 : (σ1 o 1) ≥ 3 := hc15
            refine jw_W_n 1 (i' := 42) (ls' := [some (.inr (.inr 33)), some (.inl fi), some (.inl (σ 34 0)), some (.inl c)]) (st' := [.inr (.inr 33)]) rfl ?_
            refine jw_W_gf rfl rfl rfl ?_
            show jw_W (js_S n) _ md_81 43 [some (.inr (.inr 33)), some (.inl fi), some (.inl (σ 34 0)), some (.inl c)] [.inr (.inr 34)] σ1 _
            refine jw_W_n 2 (i' := 45) (ls' := [some (.inr (.inr 33)), some (.inl fi), some (.inl (σ 34 0)), some (.inl c)]) (st' := [.inl (σ 34 0), .inl 4, .inr (.inr 34)]) rfl ?_
            refine jw_W_call (as := [.inr (.inr 34), .inl 4, .inl (σ 34 0)]) (rest := []) rfl rfl rfl rfl (Nat.le_of_ble_eq_true rfl) (.inr rfl) (jk_failX hX1 (by omega) (by omega)) (by omega) ?_ rfl
            rintro r1 σ3 ⟨rfl, hE3, h30, h32⟩
            rename jw_H => σ3
            have hgd : ¬ (c = 0 ∨ ¬ (c = 1 ↔ fi = 1)) := by omega
            show jw_W (js_S n) _ md_81 46 [some (.inr (.inr 33)), some (.inl fi), some (.inl (σ 34 0)), some (.inl c)] [] σ3 _
            exact jk_line_tail hX hrl hfi (jk_E_tr hE1 hE3) he hc (h30.trans e10) (fun hz => .inr (by have h32z := h32 (e12.trans hz); have h3 := (hrl hz).2.2.2.2.1; have h4 := (hrl hz).2.2.2.2.2.1; exact ⟨by omega, by rw [h32z]; exact jk_pl_2 he hc hgd (by omega)⟩))
          · have hc15 : ¬ ((σ1 o 1) ≥ 3) := hc15
            refine jw_W_n 2 (i' := 35) (ls' := [some (.inr (.inr 33)), some (.inl fi), some (.inl (σ 34 0)), some (.inl c)]) (st' := [.inl 4, .inl c]) rfl ?_
            refine jw_W_ic rfl (by unfold jw_rg; omega) (by unfold jw_rg; omega) (fun hc16 => ?_) (fun hc16 => ?_)
            · have hc16 : c ≠ 4 := hc16
              exact jk_line_tail hX hrl hfi hE1 he hc e10 (fun hz => .inl ⟨by rw [e12]; exact hz, by omega, by have h3 := (hrl hz).2.2.2.2.1; have h4 := (hrl hz).2.2.2.2.2.1; omega⟩)
            · have hc16 : c = 4 := Classical.not_not.mp hc16
              refine jw_W_n 1 (i' := 37) (ls' := [some (.inr (.inr 33)), some (.inl fi), some (.inl (σ 34 0)), some (.inl c)]) (st' := [.inr (.inr 33)]) rfl ?_
              refine jw_W_gf rfl rfl rfl ?_
              show jw_W (js_S n) _ md_81 38 [some (.inr (.inr 33)), some (.inl fi), some (.inl (σ 34 0)), some (.inl c)] [.inr (.inr ((σ1 33 2).toNat))] σ1 _
              rw [hto1]
              refine jw_W_gf rfl hpo.2.1 rfl ?_
              show jw_W (js_S n) _ md_81 39 [some (.inr (.inr 33)), some (.inl fi), some (.inl (σ 34 0)), some (.inl c)] [.inl (σ1 o 2)] σ1 _
              refine jw_W_n 1 (i' := 40) (ls' := [some (.inr (.inr 33)), some (.inl fi), some (.inl (σ 34 0)), some (.inl c)]) (st' := [.inl 4, .inl (σ1 o 2)]) rfl ?_
              refine jw_W_ic rfl (by unfold jw_rg; omega) (by unfold jw_rg; omega) (fun hc17 => ?_) (fun hc17 => ?_)
              · have hc17 : (σ1 o 2) < 4 := hc17
                exact jk_line_tail hX hrl hfi hE1 he hc e10 (fun hz => .inl ⟨by rw [e12]; exact hz, by omega, by have h3 := (hrl hz).2.2.2.2.1; have h4 := (hrl hz).2.2.2.2.2.1; omega⟩)
              · have hc17 : ¬ ((σ1 o 2) < 4) := hc17
                refine jw_W_n 1 (i' := 42) (ls' := [some (.inr (.inr 33)), some (.inl fi), some (.inl (σ 34 0)), some (.inl c)]) (st' := [.inr (.inr 33)]) rfl ?_
                refine jw_W_gf rfl rfl rfl ?_
                show jw_W (js_S n) _ md_81 43 [some (.inr (.inr 33)), some (.inl fi), some (.inl (σ 34 0)), some (.inl c)] [.inr (.inr 34)] σ1 _
                refine jw_W_n 2 (i' := 45) (ls' := [some (.inr (.inr 33)), some (.inl fi), some (.inl (σ 34 0)), some (.inl c)]) (st' := [.inl (σ 34 0), .inl 4, .inr (.inr 34)]) rfl ?_
                refine jw_W_call (as := [.inr (.inr 34), .inl 4, .inl (σ 34 0)]) (rest := []) rfl rfl rfl rfl (Nat.le_of_ble_eq_true rfl) (.inr rfl) (jk_failX hX1 (by omega) (by omega)) (by omega) ?_ rfl
                rintro r1 σ3 ⟨rfl, hE3, h30, h32⟩
                rename jw_H => σ3
                have hgd : ¬ (c = 0 ∨ ¬ (c = 1 ↔ fi = 1)) := by omega
                show jw_W (js_S n) _ md_81 46 [some (.inr (.inr 33)), some (.inl fi), some (.inl (σ 34 0)), some (.inl c)] [] σ3 _
                exact jk_line_tail hX hrl hfi (jk_E_tr hE1 hE3) he hc (h30.trans e10) (fun hz => .inr (by have h32z := h32 (e12.trans hz); have h3 := (hrl hz).2.2.2.2.1; have h4 := (hrl hz).2.2.2.2.2.1; exact ⟨by omega, by rw [h32z]; exact jk_pl_2 he hc hgd (by omega)⟩))
        · have hc14 : ¬ (c = 2) := hc14
          refine jw_W_n 2 (i' := 27) (ls' := [some (.inr (.inr 33)), some (.inl fi), some (.inl (σ 34 0)), some (.inl c)]) (st' := [.inl 3, .inl c]) rfl ?_
          refine jw_W_ic rfl (by unfold jw_rg; omega) (by unfold jw_rg; omega) (fun hc18 => ?_) (fun hc18 => ?_)
          · have hc18 : c ≠ 3 := hc18
            refine jw_W_n 2 (i' := 35) (ls' := [some (.inr (.inr 33)), some (.inl fi), some (.inl (σ 34 0)), some (.inl c)]) (st' := [.inl 4, .inl c]) rfl ?_
            refine jw_W_ic rfl (by unfold jw_rg; omega) (by unfold jw_rg; omega) (fun hc19 => ?_) (fun hc19 => ?_)
            · have hc19 : c ≠ 4 := hc19
              exact jk_line_tail hX hrl hfi hE1 he hc e10 (fun hz => .inl ⟨by rw [e12]; exact hz, by omega, by have h3 := (hrl hz).2.2.2.2.1; have h4 := (hrl hz).2.2.2.2.2.1; omega⟩)
            · have hc19 : c = 4 := Classical.not_not.mp hc19
              refine jw_W_n 1 (i' := 37) (ls' := [some (.inr (.inr 33)), some (.inl fi), some (.inl (σ 34 0)), some (.inl c)]) (st' := [.inr (.inr 33)]) rfl ?_
              refine jw_W_gf rfl rfl rfl ?_
              show jw_W (js_S n) _ md_81 38 [some (.inr (.inr 33)), some (.inl fi), some (.inl (σ 34 0)), some (.inl c)] [.inr (.inr ((σ1 33 2).toNat))] σ1 _
              rw [hto1]
              refine jw_W_gf rfl hpo.2.1 rfl ?_
              show jw_W (js_S n) _ md_81 39 [some (.inr (.inr 33)), some (.inl fi), some (.inl (σ 34 0)), some (.inl c)] [.inl (σ1 o 2)] σ1 _
              refine jw_W_n 1 (i' := 40) (ls' := [some (.inr (.inr 33)), some (.inl fi), some (.inl (σ 34 0)), some (.inl c)]) (st' := [.inl 4, .inl (σ1 o 2)]) rfl ?_
              refine jw_W_ic rfl (by unfold jw_rg; omega) (by unfold jw_rg; omega) (fun hc20 => ?_) (fun hc20 => ?_)
              · have hc20 : (σ1 o 2) < 4 := hc20
                exact jk_line_tail hX hrl hfi hE1 he hc e10 (fun hz => .inl ⟨by rw [e12]; exact hz, by omega, by have h3 := (hrl hz).2.2.2.2.1; have h4 := (hrl hz).2.2.2.2.2.1; omega⟩)
              · have hc20 : ¬ ((σ1 o 2) < 4) := hc20
                refine jw_W_n 1 (i' := 42) (ls' := [some (.inr (.inr 33)), some (.inl fi), some (.inl (σ 34 0)), some (.inl c)]) (st' := [.inr (.inr 33)]) rfl ?_
                refine jw_W_gf rfl rfl rfl ?_
                show jw_W (js_S n) _ md_81 43 [some (.inr (.inr 33)), some (.inl fi), some (.inl (σ 34 0)), some (.inl c)] [.inr (.inr 34)] σ1 _
                refine jw_W_n 2 (i' := 45) (ls' := [some (.inr (.inr 33)), some (.inl fi), some (.inl (σ 34 0)), some (.inl c)]) (st' := [.inl (σ 34 0), .inl 4, .inr (.inr 34)]) rfl ?_
                refine jw_W_call (as := [.inr (.inr 34), .inl 4, .inl (σ 34 0)]) (rest := []) rfl rfl rfl rfl (Nat.le_of_ble_eq_true rfl) (.inr rfl) (jk_failX hX1 (by omega) (by omega)) (by omega) ?_ rfl
                rintro r1 σ3 ⟨rfl, hE3, h30, h32⟩
                rename jw_H => σ3
                have hgd : ¬ (c = 0 ∨ ¬ (c = 1 ↔ fi = 1)) := by omega
                show jw_W (js_S n) _ md_81 46 [some (.inr (.inr 33)), some (.inl fi), some (.inl (σ 34 0)), some (.inl c)] [] σ3 _
                exact jk_line_tail hX hrl hfi (jk_E_tr hE1 hE3) he hc (h30.trans e10) (fun hz => .inr (by have h32z := h32 (e12.trans hz); have h3 := (hrl hz).2.2.2.2.1; have h4 := (hrl hz).2.2.2.2.2.1; exact ⟨by omega, by rw [h32z]; exact jk_pl_2 he hc hgd (by omega)⟩))
          · have hc18 : c = 3 := Classical.not_not.mp hc18
            refine jw_W_n 1 (i' := 29) (ls' := [some (.inr (.inr 33)), some (.inl fi), some (.inl (σ 34 0)), some (.inl c)]) (st' := [.inr (.inr 33)]) rfl ?_
            refine jw_W_gf rfl rfl rfl ?_
            show jw_W (js_S n) _ md_81 30 [some (.inr (.inr 33)), some (.inl fi), some (.inl (σ 34 0)), some (.inl c)] [.inr (.inr ((σ1 33 2).toNat))] σ1 _
            rw [hto1]
            refine jw_W_gf rfl hpo.2.1 rfl ?_
            show jw_W (js_S n) _ md_81 31 [some (.inr (.inr 33)), some (.inl fi), some (.inl (σ 34 0)), some (.inl c)] [.inl (σ1 o 1)] σ1 _
            refine jw_W_n 1 (i' := 32) (ls' := [some (.inr (.inr 33)), some (.inl fi), some (.inl (σ 34 0)), some (.inl c)]) (st' := [.inl 3, .inl (σ1 o 1)]) rfl ?_
            refine jw_W_ic rfl (by unfold jw_rg; omega) (by unfold jw_rg; omega) (fun hc21 => ?_) (fun hc21 => ?_)
            · have hc21 : (σ1 o 1) ≥ 3 := hc21
              refine jw_W_n 1 (i' := 42) (ls' := [some (.inr (.inr 33)), some (.inl fi), some (.inl (σ 34 0)), some (.inl c)]) (st' := [.inr (.inr 33)]) rfl ?_
              refine jw_W_gf rfl rfl rfl ?_
              show jw_W (js_S n) _ md_81 43 [some (.inr (.inr 33)), some (.inl fi), some (.inl (σ 34 0)), some (.inl c)] [.inr (.inr 34)] σ1 _
              refine jw_W_n 2 (i' := 45) (ls' := [some (.inr (.inr 33)), some (.inl fi), some (.inl (σ 34 0)), some (.inl c)]) (st' := [.inl (σ 34 0), .inl 4, .inr (.inr 34)]) rfl ?_
              refine jw_W_call (as := [.inr (.inr 34), .inl 4, .inl (σ 34 0)]) (rest := []) rfl rfl rfl rfl (Nat.le_of_ble_eq_true rfl) (.inr rfl) (jk_failX hX1 (by omega) (by omega)) (by omega) ?_ rfl
              rintro r1 σ3 ⟨rfl, hE3, h30, h32⟩
              rename jw_H => σ3
              have hgd : ¬ (c = 0 ∨ ¬ (c = 1 ↔ fi = 1)) := by omega
              show jw_W (js_S n) _ md_81 46 [some (.inr (.inr 33)), some (.inl fi), some (.inl (σ 34 0)), some (.inl c)] [] σ3 _
              exact jk_line_tail hX hrl hfi (jk_E_tr hE1 hE3) he hc (h30.trans e10) (fun hz => .inr (by have h32z := h32 (e12.trans hz); have h3 := (hrl hz).2.2.2.2.1; have h4 := (hrl hz).2.2.2.2.2.1; exact ⟨by omega, by rw [h32z]; exact jk_pl_2 he hc hgd (by omega)⟩))
            · have hc21 : ¬ ((σ1 o 1) ≥ 3) := hc21
              refine jw_W_n 2 (i' := 35) (ls' := [some (.inr (.inr 33)), some (.inl fi), some (.inl (σ 34 0)), some (.inl c)]) (st' := [.inl 4, .inl c]) rfl ?_
              refine jw_W_ic rfl (by unfold jw_rg; omega) (by unfold jw_rg; omega) (fun hc22 => ?_) (fun hc22 => ?_)
              · have hc22 : c ≠ 4 := hc22
                exact jk_line_tail hX hrl hfi hE1 he hc e10 (fun hz => .inl ⟨by rw [e12]; exact hz, by omega, by have h3 := (hrl hz).2.2.2.2.1; have h4 := (hrl hz).2.2.2.2.2.1; omega⟩)
              · have hc22 : c = 4 := Classical.not_not.mp hc22
                refine jw_W_n 1 (i' := 37) (ls' := [some (.inr (.inr 33)), some (.inl fi), some (.inl (σ 34 0)), some (.inl c)]) (st' := [.inr (.inr 33)]) rfl ?_
                refine jw_W_gf rfl rfl rfl ?_
                show jw_W (js_S n) _ md_81 38 [some (.inr (.inr 33)), some (.inl fi), some (.inl (σ 34 0)), some (.inl c)] [.inr (.inr ((σ1 33 2).toNat))] σ1 _
                rw [hto1]
                refine jw_W_gf rfl hpo.2.1 rfl ?_
                show jw_W (js_S n) _ md_81 39 [some (.inr (.inr 33)), some (.inl fi), some (.inl (σ 34 0)), some (.inl c)] [.inl (σ1 o 2)] σ1 _
                refine jw_W_n 1 (i' := 40) (ls' := [some (.inr (.inr 33)), some (.inl fi), some (.inl (σ 34 0)), some (.inl c)]) (st' := [.inl 4, .inl (σ1 o 2)]) rfl ?_
                refine jw_W_ic rfl (by unfold jw_rg; omega) (by unfold jw_rg; omega) (fun hc23 => ?_) (fun hc23 => ?_)
                · have hc23 : (σ1 o 2) < 4 := hc23
                  exact jk_line_tail hX hrl hfi hE1 he hc e10 (fun hz => .inl ⟨by rw [e12]; exact hz, by omega, by have h3 := (hrl hz).2.2.2.2.1; have h4 := (hrl hz).2.2.2.2.2.1; omega⟩)
                · have hc23 : ¬ ((σ1 o 2) < 4) := hc23
                  refine jw_W_n 1 (i' := 42) (ls' := [some (.inr (.inr 33)), some (.inl fi), some (.inl (σ 34 0)), some (.inl c)]) (st' := [.inr (.inr 33)]) rfl ?_
                  refine jw_W_gf rfl rfl rfl ?_
                  show jw_W (js_S n) _ md_81 43 [some (.inr (.inr 33)), some (.inl fi), some (.inl (σ 34 0)), some (.inl c)] [.inr (.inr 34)] σ1 _
                  refine jw_W_n 2 (i' := 45) (ls' := [some (.inr (.inr 33)), some (.inl fi), some (.inl (σ 34 0)), some (.inl c)]) (st' := [.inl (σ 34 0), .inl 4, .inr (.inr 34)]) rfl ?_
                  refine jw_W_call (as := [.inr (.inr 34), .inl 4, .inl (σ 34 0)]) (rest := []) rfl rfl rfl rfl (Nat.le_of_ble_eq_true rfl) (.inr rfl) (jk_failX hX1 (by omega) (by omega)) (by omega) ?_ rfl
                  rintro r1 σ3 ⟨rfl, hE3, h30, h32⟩
                  rename jw_H => σ3
                  have hgd : ¬ (c = 0 ∨ ¬ (c = 1 ↔ fi = 1)) := by omega
                  show jw_W (js_S n) _ md_81 46 [some (.inr (.inr 33)), some (.inl fi), some (.inl (σ 34 0)), some (.inl c)] [] σ3 _
                  exact jk_line_tail hX hrl hfi (jk_E_tr hE1 hE3) he hc (h30.trans e10) (fun hz => .inr (by have h32z := h32 (e12.trans hz); have h3 := (hrl hz).2.2.2.2.1; have h4 := (hrl hz).2.2.2.2.2.1; exact ⟨by omega, by rw [h32z]; exact jk_pl_2 he hc hgd (by omega)⟩))
      · have hc13 : ¬ (0 = fi) := hc13
        refine jw_W_n 1 (i' := 18) (ls' := [some (.inr (.inr 33)), some (.inl fi), some (.inl (σ 34 0)), some (.inl c)]) (st' := [.inr (.inr 33)]) rfl ?_
        refine jw_W_gf rfl rfl rfl ?_
        show jw_W (js_S n) _ md_81 19 [some (.inr (.inr 33)), some (.inl fi), some (.inl (σ 34 0)), some (.inl c)] [.inr (.inr 34)] σ1 _
        refine jw_W_n 2 (i' := 21) (ls' := [some (.inr (.inr 33)), some (.inl fi), some (.inl (σ 34 0)), some (.inl c)]) (st' := [.inl (σ 34 0), .inl 1, .inr (.inr 34)]) rfl ?_
        refine jw_W_call (as := [.inr (.inr 34), .inl 1, .inl (σ 34 0)]) (rest := []) rfl rfl rfl rfl (Nat.le_of_ble_eq_true rfl) (.inr rfl) (jk_failX hX1 (by omega) (by omega)) (by omega) ?_ rfl
        rintro r1 σ2 ⟨rfl, hE2, h20, h22⟩
        rename jw_H => σ2
        have hX2 := hE2.1
        have hto2 := hX2.2.1
        have eo2 : σ2 o = σ o := (hE2.2.2 o (by omega)).trans eo1
        have eo21 := congrFun eo2 1
        have eo22 := congrFun eo2 2
        have hbad : c = 0 ∨ ¬ (c = 1 ↔ fi = 1) := by omega
        show jw_W (js_S n) _ md_81 22 [some (.inr (.inr 33)), some (.inl fi), some (.inl (σ 34 0)), some (.inl c)] [] σ2 _
        refine jw_W_n 2 (i' := 24) (ls' := [some (.inr (.inr 33)), some (.inl fi), some (.inl (σ 34 0)), some (.inl c)]) (st' := [.inl 2, .inl c]) rfl ?_
        refine jw_W_ic rfl (by unfold jw_rg; omega) (by unfold jw_rg; omega) (fun hc24 => ?_) (fun hc24 => ?_)
        · have hc24 : c = 2 := hc24
          refine jw_W_n 1 (i' := 29) (ls' := [some (.inr (.inr 33)), some (.inl fi), some (.inl (σ 34 0)), some (.inl c)]) (st' := [.inr (.inr 33)]) rfl ?_
          refine jw_W_gf rfl rfl rfl ?_
          show jw_W (js_S n) _ md_81 30 [some (.inr (.inr 33)), some (.inl fi), some (.inl (σ 34 0)), some (.inl c)] [.inr (.inr ((σ2 33 2).toNat))] σ2 _
          rw [hto2]
          refine jw_W_gf rfl hpo.2.1 rfl ?_
          show jw_W (js_S n) _ md_81 31 [some (.inr (.inr 33)), some (.inl fi), some (.inl (σ 34 0)), some (.inl c)] [.inl (σ2 o 1)] σ2 _
          refine jw_W_n 1 (i' := 32) (ls' := [some (.inr (.inr 33)), some (.inl fi), some (.inl (σ 34 0)), some (.inl c)]) (st' := [.inl 3, .inl (σ2 o 1)]) rfl ?_
          refine jw_W_ic rfl (by unfold jw_rg; omega) (by unfold jw_rg; omega) (fun hc25 => ?_) (fun hc25 => ?_)
          · have hc25 : (σ2 o 1) ≥ 3 := hc25
            refine jw_W_n 1 (i' := 42) (ls' := [some (.inr (.inr 33)), some (.inl fi), some (.inl (σ 34 0)), some (.inl c)]) (st' := [.inr (.inr 33)]) rfl ?_
            refine jw_W_gf rfl rfl rfl ?_
            show jw_W (js_S n) _ md_81 43 [some (.inr (.inr 33)), some (.inl fi), some (.inl (σ 34 0)), some (.inl c)] [.inr (.inr 34)] σ2 _
            refine jw_W_n 2 (i' := 45) (ls' := [some (.inr (.inr 33)), some (.inl fi), some (.inl (σ 34 0)), some (.inl c)]) (st' := [.inl (σ 34 0), .inl 4, .inr (.inr 34)]) rfl ?_
            refine jw_W_call (as := [.inr (.inr 34), .inl 4, .inl (σ 34 0)]) (rest := []) rfl rfl rfl rfl (Nat.le_of_ble_eq_true rfl) (.inr rfl) (jk_failX hX2 (by omega) (by omega)) (by omega) ?_ rfl
            rintro r1 σ23 ⟨rfl, hE3, h30, h32⟩
            rename jw_H => σ23
            show jw_W (js_S n) _ md_81 46 [some (.inr (.inr 33)), some (.inl fi), some (.inl (σ 34 0)), some (.inl c)] [] σ23 _
            exact jk_line_tail hX hrl hfi (jk_E_tr hE1 (jk_E_tr hE2 hE3)) he hc (h30.trans (h20.trans e10)) (fun hz => .inr (by have h22z := h22 (e12.trans hz); have h32z := hE3.2.1.2.2.1 (by omega); exact ⟨by omega, by rw [h32z, h22z]; exact jk_pl_1 he hc hbad⟩))
          · have hc25 : ¬ ((σ2 o 1) ≥ 3) := hc25
            refine jw_W_n 2 (i' := 35) (ls' := [some (.inr (.inr 33)), some (.inl fi), some (.inl (σ 34 0)), some (.inl c)]) (st' := [.inl 4, .inl c]) rfl ?_
            refine jw_W_ic rfl (by unfold jw_rg; omega) (by unfold jw_rg; omega) (fun hc26 => ?_) (fun hc26 => ?_)
            · have hc26 : c ≠ 4 := hc26
              exact jk_line_tail hX hrl hfi (jk_E_tr hE1 hE2) he hc (h20.trans e10) (fun hz => .inr (by have h22z := h22 (e12.trans hz); exact ⟨by omega, by rw [h22z]; exact jk_pl_1 he hc hbad⟩))
            · have hc26 : c = 4 := Classical.not_not.mp hc26
              refine jw_W_n 1 (i' := 37) (ls' := [some (.inr (.inr 33)), some (.inl fi), some (.inl (σ 34 0)), some (.inl c)]) (st' := [.inr (.inr 33)]) rfl ?_
              refine jw_W_gf rfl rfl rfl ?_
              show jw_W (js_S n) _ md_81 38 [some (.inr (.inr 33)), some (.inl fi), some (.inl (σ 34 0)), some (.inl c)] [.inr (.inr ((σ2 33 2).toNat))] σ2 _
              rw [hto2]
              refine jw_W_gf rfl hpo.2.1 rfl ?_
              show jw_W (js_S n) _ md_81 39 [some (.inr (.inr 33)), some (.inl fi), some (.inl (σ 34 0)), some (.inl c)] [.inl (σ2 o 2)] σ2 _
              refine jw_W_n 1 (i' := 40) (ls' := [some (.inr (.inr 33)), some (.inl fi), some (.inl (σ 34 0)), some (.inl c)]) (st' := [.inl 4, .inl (σ2 o 2)]) rfl ?_
              refine jw_W_ic rfl (by unfold jw_rg; omega) (by unfold jw_rg; omega) (fun hc27 => ?_) (fun hc27 => ?_)
              · have hc27 : (σ2 o 2) < 4 := hc27
                exact jk_line_tail hX hrl hfi (jk_E_tr hE1 hE2) he hc (h20.trans e10) (fun hz => .inr (by have h22z := h22 (e12.trans hz); exact ⟨by omega, by rw [h22z]; exact jk_pl_1 he hc hbad⟩))
              · have hc27 : ¬ ((σ2 o 2) < 4) := hc27
                refine jw_W_n 1 (i' := 42) (ls' := [some (.inr (.inr 33)), some (.inl fi), some (.inl (σ 34 0)), some (.inl c)]) (st' := [.inr (.inr 33)]) rfl ?_
                refine jw_W_gf rfl rfl rfl ?_
                show jw_W (js_S n) _ md_81 43 [some (.inr (.inr 33)), some (.inl fi), some (.inl (σ 34 0)), some (.inl c)] [.inr (.inr 34)] σ2 _
                refine jw_W_n 2 (i' := 45) (ls' := [some (.inr (.inr 33)), some (.inl fi), some (.inl (σ 34 0)), some (.inl c)]) (st' := [.inl (σ 34 0), .inl 4, .inr (.inr 34)]) rfl ?_
                refine jw_W_call (as := [.inr (.inr 34), .inl 4, .inl (σ 34 0)]) (rest := []) rfl rfl rfl rfl (Nat.le_of_ble_eq_true rfl) (.inr rfl) (jk_failX hX2 (by omega) (by omega)) (by omega) ?_ rfl
                rintro r1 σ23 ⟨rfl, hE3, h30, h32⟩
                rename jw_H => σ23
                show jw_W (js_S n) _ md_81 46 [some (.inr (.inr 33)), some (.inl fi), some (.inl (σ 34 0)), some (.inl c)] [] σ23 _
                exact jk_line_tail hX hrl hfi (jk_E_tr hE1 (jk_E_tr hE2 hE3)) he hc (h30.trans (h20.trans e10)) (fun hz => .inr (by have h22z := h22 (e12.trans hz); have h32z := hE3.2.1.2.2.1 (by omega); exact ⟨by omega, by rw [h32z, h22z]; exact jk_pl_1 he hc hbad⟩))
        · have hc24 : ¬ (c = 2) := hc24
          refine jw_W_n 2 (i' := 27) (ls' := [some (.inr (.inr 33)), some (.inl fi), some (.inl (σ 34 0)), some (.inl c)]) (st' := [.inl 3, .inl c]) rfl ?_
          refine jw_W_ic rfl (by unfold jw_rg; omega) (by unfold jw_rg; omega) (fun hc28 => ?_) (fun hc28 => ?_)
          · have hc28 : c ≠ 3 := hc28
            refine jw_W_n 2 (i' := 35) (ls' := [some (.inr (.inr 33)), some (.inl fi), some (.inl (σ 34 0)), some (.inl c)]) (st' := [.inl 4, .inl c]) rfl ?_
            refine jw_W_ic rfl (by unfold jw_rg; omega) (by unfold jw_rg; omega) (fun hc29 => ?_) (fun hc29 => ?_)
            · have hc29 : c ≠ 4 := hc29
              exact jk_line_tail hX hrl hfi (jk_E_tr hE1 hE2) he hc (h20.trans e10) (fun hz => .inr (by have h22z := h22 (e12.trans hz); exact ⟨by omega, by rw [h22z]; exact jk_pl_1 he hc hbad⟩))
            · have hc29 : c = 4 := Classical.not_not.mp hc29
              refine jw_W_n 1 (i' := 37) (ls' := [some (.inr (.inr 33)), some (.inl fi), some (.inl (σ 34 0)), some (.inl c)]) (st' := [.inr (.inr 33)]) rfl ?_
              refine jw_W_gf rfl rfl rfl ?_
              show jw_W (js_S n) _ md_81 38 [some (.inr (.inr 33)), some (.inl fi), some (.inl (σ 34 0)), some (.inl c)] [.inr (.inr ((σ2 33 2).toNat))] σ2 _
              rw [hto2]
              refine jw_W_gf rfl hpo.2.1 rfl ?_
              show jw_W (js_S n) _ md_81 39 [some (.inr (.inr 33)), some (.inl fi), some (.inl (σ 34 0)), some (.inl c)] [.inl (σ2 o 2)] σ2 _
              refine jw_W_n 1 (i' := 40) (ls' := [some (.inr (.inr 33)), some (.inl fi), some (.inl (σ 34 0)), some (.inl c)]) (st' := [.inl 4, .inl (σ2 o 2)]) rfl ?_
              refine jw_W_ic rfl (by unfold jw_rg; omega) (by unfold jw_rg; omega) (fun hc30 => ?_) (fun hc30 => ?_)
              · have hc30 : (σ2 o 2) < 4 := hc30
                exact jk_line_tail hX hrl hfi (jk_E_tr hE1 hE2) he hc (h20.trans e10) (fun hz => .inr (by have h22z := h22 (e12.trans hz); exact ⟨by omega, by rw [h22z]; exact jk_pl_1 he hc hbad⟩))
              · have hc30 : ¬ ((σ2 o 2) < 4) := hc30
                refine jw_W_n 1 (i' := 42) (ls' := [some (.inr (.inr 33)), some (.inl fi), some (.inl (σ 34 0)), some (.inl c)]) (st' := [.inr (.inr 33)]) rfl ?_
                refine jw_W_gf rfl rfl rfl ?_
                show jw_W (js_S n) _ md_81 43 [some (.inr (.inr 33)), some (.inl fi), some (.inl (σ 34 0)), some (.inl c)] [.inr (.inr 34)] σ2 _
                refine jw_W_n 2 (i' := 45) (ls' := [some (.inr (.inr 33)), some (.inl fi), some (.inl (σ 34 0)), some (.inl c)]) (st' := [.inl (σ 34 0), .inl 4, .inr (.inr 34)]) rfl ?_
                refine jw_W_call (as := [.inr (.inr 34), .inl 4, .inl (σ 34 0)]) (rest := []) rfl rfl rfl rfl (Nat.le_of_ble_eq_true rfl) (.inr rfl) (jk_failX hX2 (by omega) (by omega)) (by omega) ?_ rfl
                rintro r1 σ23 ⟨rfl, hE3, h30, h32⟩
                rename jw_H => σ23
                show jw_W (js_S n) _ md_81 46 [some (.inr (.inr 33)), some (.inl fi), some (.inl (σ 34 0)), some (.inl c)] [] σ23 _
                exact jk_line_tail hX hrl hfi (jk_E_tr hE1 (jk_E_tr hE2 hE3)) he hc (h30.trans (h20.trans e10)) (fun hz => .inr (by have h22z := h22 (e12.trans hz); have h32z := hE3.2.1.2.2.1 (by omega); exact ⟨by omega, by rw [h32z, h22z]; exact jk_pl_1 he hc hbad⟩))
          · have hc28 : c = 3 := Classical.not_not.mp hc28
            refine jw_W_n 1 (i' := 29) (ls' := [some (.inr (.inr 33)), some (.inl fi), some (.inl (σ 34 0)), some (.inl c)]) (st' := [.inr (.inr 33)]) rfl ?_
            refine jw_W_gf rfl rfl rfl ?_
            show jw_W (js_S n) _ md_81 30 [some (.inr (.inr 33)), some (.inl fi), some (.inl (σ 34 0)), some (.inl c)] [.inr (.inr ((σ2 33 2).toNat))] σ2 _
            rw [hto2]
            refine jw_W_gf rfl hpo.2.1 rfl ?_
            show jw_W (js_S n) _ md_81 31 [some (.inr (.inr 33)), some (.inl fi), some (.inl (σ 34 0)), some (.inl c)] [.inl (σ2 o 1)] σ2 _
            refine jw_W_n 1 (i' := 32) (ls' := [some (.inr (.inr 33)), some (.inl fi), some (.inl (σ 34 0)), some (.inl c)]) (st' := [.inl 3, .inl (σ2 o 1)]) rfl ?_
            refine jw_W_ic rfl (by unfold jw_rg; omega) (by unfold jw_rg; omega) (fun hc31 => ?_) (fun hc31 => ?_)
            · have hc31 : (σ2 o 1) ≥ 3 := hc31
              refine jw_W_n 1 (i' := 42) (ls' := [some (.inr (.inr 33)), some (.inl fi), some (.inl (σ 34 0)), some (.inl c)]) (st' := [.inr (.inr 33)]) rfl ?_
              refine jw_W_gf rfl rfl rfl ?_
              show jw_W (js_S n) _ md_81 43 [some (.inr (.inr 33)), some (.inl fi), some (.inl (σ 34 0)), some (.inl c)] [.inr (.inr 34)] σ2 _
              refine jw_W_n 2 (i' := 45) (ls' := [some (.inr (.inr 33)), some (.inl fi), some (.inl (σ 34 0)), some (.inl c)]) (st' := [.inl (σ 34 0), .inl 4, .inr (.inr 34)]) rfl ?_
              refine jw_W_call (as := [.inr (.inr 34), .inl 4, .inl (σ 34 0)]) (rest := []) rfl rfl rfl rfl (Nat.le_of_ble_eq_true rfl) (.inr rfl) (jk_failX hX2 (by omega) (by omega)) (by omega) ?_ rfl
              rintro r1 σ23 ⟨rfl, hE3, h30, h32⟩
              rename jw_H => σ23
              show jw_W (js_S n) _ md_81 46 [some (.inr (.inr 33)), some (.inl fi), some (.inl (σ 34 0)), some (.inl c)] [] σ23 _
              exact jk_line_tail hX hrl hfi (jk_E_tr hE1 (jk_E_tr hE2 hE3)) he hc (h30.trans (h20.trans e10)) (fun hz => .inr (by have h22z := h22 (e12.trans hz); have h32z := hE3.2.1.2.2.1 (by omega); exact ⟨by omega, by rw [h32z, h22z]; exact jk_pl_1 he hc hbad⟩))
            · have hc31 : ¬ ((σ2 o 1) ≥ 3) := hc31
              refine jw_W_n 2 (i' := 35) (ls' := [some (.inr (.inr 33)), some (.inl fi), some (.inl (σ 34 0)), some (.inl c)]) (st' := [.inl 4, .inl c]) rfl ?_
              refine jw_W_ic rfl (by unfold jw_rg; omega) (by unfold jw_rg; omega) (fun hc32 => ?_) (fun hc32 => ?_)
              · have hc32 : c ≠ 4 := hc32
                exact jk_line_tail hX hrl hfi (jk_E_tr hE1 hE2) he hc (h20.trans e10) (fun hz => .inr (by have h22z := h22 (e12.trans hz); exact ⟨by omega, by rw [h22z]; exact jk_pl_1 he hc hbad⟩))
              · have hc32 : c = 4 := Classical.not_not.mp hc32
                refine jw_W_n 1 (i' := 37) (ls' := [some (.inr (.inr 33)), some (.inl fi), some (.inl (σ 34 0)), some (.inl c)]) (st' := [.inr (.inr 33)]) rfl ?_
                refine jw_W_gf rfl rfl rfl ?_
                show jw_W (js_S n) _ md_81 38 [some (.inr (.inr 33)), some (.inl fi), some (.inl (σ 34 0)), some (.inl c)] [.inr (.inr ((σ2 33 2).toNat))] σ2 _
                rw [hto2]
                refine jw_W_gf rfl hpo.2.1 rfl ?_
                show jw_W (js_S n) _ md_81 39 [some (.inr (.inr 33)), some (.inl fi), some (.inl (σ 34 0)), some (.inl c)] [.inl (σ2 o 2)] σ2 _
                refine jw_W_n 1 (i' := 40) (ls' := [some (.inr (.inr 33)), some (.inl fi), some (.inl (σ 34 0)), some (.inl c)]) (st' := [.inl 4, .inl (σ2 o 2)]) rfl ?_
                refine jw_W_ic rfl (by unfold jw_rg; omega) (by unfold jw_rg; omega) (fun hc33 => ?_) (fun hc33 => ?_)
                · have hc33 : (σ2 o 2) < 4 := hc33
                  exact jk_line_tail hX hrl hfi (jk_E_tr hE1 hE2) he hc (h20.trans e10) (fun hz => .inr (by have h22z := h22 (e12.trans hz); exact ⟨by omega, by rw [h22z]; exact jk_pl_1 he hc hbad⟩))
                · have hc33 : ¬ ((σ2 o 2) < 4) := hc33
                  refine jw_W_n 1 (i' := 42) (ls' := [some (.inr (.inr 33)), some (.inl fi), some (.inl (σ 34 0)), some (.inl c)]) (st' := [.inr (.inr 33)]) rfl ?_
                  refine jw_W_gf rfl rfl rfl ?_
                  show jw_W (js_S n) _ md_81 43 [some (.inr (.inr 33)), some (.inl fi), some (.inl (σ 34 0)), some (.inl c)] [.inr (.inr 34)] σ2 _
                  refine jw_W_n 2 (i' := 45) (ls' := [some (.inr (.inr 33)), some (.inl fi), some (.inl (σ 34 0)), some (.inl c)]) (st' := [.inl (σ 34 0), .inl 4, .inr (.inr 34)]) rfl ?_
                  refine jw_W_call (as := [.inr (.inr 34), .inl 4, .inl (σ 34 0)]) (rest := []) rfl rfl rfl rfl (Nat.le_of_ble_eq_true rfl) (.inr rfl) (jk_failX hX2 (by omega) (by omega)) (by omega) ?_ rfl
                  rintro r1 σ23 ⟨rfl, hE3, h30, h32⟩
                  rename jw_H => σ23
                  show jw_W (js_S n) _ md_81 46 [some (.inr (.inr 33)), some (.inl fi), some (.inl (σ 34 0)), some (.inl c)] [] σ23 _
                  exact jk_line_tail hX hrl hfi (jk_E_tr hE1 (jk_E_tr hE2 hE3)) he hc (h30.trans (h20.trans e10)) (fun hz => .inr (by have h22z := h22 (e12.trans hz); have h32z := hE3.2.1.2.2.1 (by omega); exact ⟨by omega, by rw [h32z, h22z]; exact jk_pl_1 he hc hbad⟩))
    · have hc12 : c = 1 := Classical.not_not.mp hc12
      refine jw_W_n 3 (i' := 16) (ls' := [some (.inr (.inr 33)), some (.inl fi), some (.inl (σ 34 0)), some (.inl c)]) (st' := [.inl fi, .inl 1]) rfl ?_
      refine jw_W_ic rfl (by unfold jw_rg; omega) (by unfold jw_rg; omega) (fun hc34 => ?_) (fun hc34 => ?_)
      · have hc34 : 1 = fi := hc34
        refine jw_W_n 2 (i' := 24) (ls' := [some (.inr (.inr 33)), some (.inl fi), some (.inl (σ 34 0)), some (.inl c)]) (st' := [.inl 2, .inl c]) rfl ?_
        refine jw_W_ic rfl (by unfold jw_rg; omega) (by unfold jw_rg; omega) (fun hc35 => ?_) (fun hc35 => ?_)
        · have hc35 : c = 2 := hc35
          refine jw_W_n 1 (i' := 29) (ls' := [some (.inr (.inr 33)), some (.inl fi), some (.inl (σ 34 0)), some (.inl c)]) (st' := [.inr (.inr 33)]) rfl ?_
          refine jw_W_gf rfl rfl rfl ?_
          show jw_W (js_S n) _ md_81 30 [some (.inr (.inr 33)), some (.inl fi), some (.inl (σ 34 0)), some (.inl c)] [.inr (.inr ((σ1 33 2).toNat))] σ1 _
          rw [hto1]
          refine jw_W_gf rfl hpo.2.1 rfl ?_
          show jw_W (js_S n) _ md_81 31 [some (.inr (.inr 33)), some (.inl fi), some (.inl (σ 34 0)), some (.inl c)] [.inl (σ1 o 1)] σ1 _
          refine jw_W_n 1 (i' := 32) (ls' := [some (.inr (.inr 33)), some (.inl fi), some (.inl (σ 34 0)), some (.inl c)]) (st' := [.inl 3, .inl (σ1 o 1)]) rfl ?_
          refine jw_W_ic rfl (by unfold jw_rg; omega) (by unfold jw_rg; omega) (fun hc36 => ?_) (fun hc36 => ?_)
          · have hc36 : (σ1 o 1) ≥ 3 := hc36
            refine jw_W_n 1 (i' := 42) (ls' := [some (.inr (.inr 33)), some (.inl fi), some (.inl (σ 34 0)), some (.inl c)]) (st' := [.inr (.inr 33)]) rfl ?_
            refine jw_W_gf rfl rfl rfl ?_
            show jw_W (js_S n) _ md_81 43 [some (.inr (.inr 33)), some (.inl fi), some (.inl (σ 34 0)), some (.inl c)] [.inr (.inr 34)] σ1 _
            refine jw_W_n 2 (i' := 45) (ls' := [some (.inr (.inr 33)), some (.inl fi), some (.inl (σ 34 0)), some (.inl c)]) (st' := [.inl (σ 34 0), .inl 4, .inr (.inr 34)]) rfl ?_
            refine jw_W_call (as := [.inr (.inr 34), .inl 4, .inl (σ 34 0)]) (rest := []) rfl rfl rfl rfl (Nat.le_of_ble_eq_true rfl) (.inr rfl) (jk_failX hX1 (by omega) (by omega)) (by omega) ?_ rfl
            rintro r1 σ3 ⟨rfl, hE3, h30, h32⟩
            rename jw_H => σ3
            have hgd : ¬ (c = 0 ∨ ¬ (c = 1 ↔ fi = 1)) := by omega
            show jw_W (js_S n) _ md_81 46 [some (.inr (.inr 33)), some (.inl fi), some (.inl (σ 34 0)), some (.inl c)] [] σ3 _
            exact jk_line_tail hX hrl hfi (jk_E_tr hE1 hE3) he hc (h30.trans e10) (fun hz => .inr (by have h32z := h32 (e12.trans hz); have h3 := (hrl hz).2.2.2.2.1; have h4 := (hrl hz).2.2.2.2.2.1; exact ⟨by omega, by rw [h32z]; exact jk_pl_2 he hc hgd (by omega)⟩))
          · have hc36 : ¬ ((σ1 o 1) ≥ 3) := hc36
            refine jw_W_n 2 (i' := 35) (ls' := [some (.inr (.inr 33)), some (.inl fi), some (.inl (σ 34 0)), some (.inl c)]) (st' := [.inl 4, .inl c]) rfl ?_
            refine jw_W_ic rfl (by unfold jw_rg; omega) (by unfold jw_rg; omega) (fun hc37 => ?_) (fun hc37 => ?_)
            · have hc37 : c ≠ 4 := hc37
              exact jk_line_tail hX hrl hfi hE1 he hc e10 (fun hz => .inl ⟨by rw [e12]; exact hz, by omega, by have h3 := (hrl hz).2.2.2.2.1; have h4 := (hrl hz).2.2.2.2.2.1; omega⟩)
            · have hc37 : c = 4 := Classical.not_not.mp hc37
              refine jw_W_n 1 (i' := 37) (ls' := [some (.inr (.inr 33)), some (.inl fi), some (.inl (σ 34 0)), some (.inl c)]) (st' := [.inr (.inr 33)]) rfl ?_
              refine jw_W_gf rfl rfl rfl ?_
              show jw_W (js_S n) _ md_81 38 [some (.inr (.inr 33)), some (.inl fi), some (.inl (σ 34 0)), some (.inl c)] [.inr (.inr ((σ1 33 2).toNat))] σ1 _
              rw [hto1]
              refine jw_W_gf rfl hpo.2.1 rfl ?_
              show jw_W (js_S n) _ md_81 39 [some (.inr (.inr 33)), some (.inl fi), some (.inl (σ 34 0)), some (.inl c)] [.inl (σ1 o 2)] σ1 _
              refine jw_W_n 1 (i' := 40) (ls' := [some (.inr (.inr 33)), some (.inl fi), some (.inl (σ 34 0)), some (.inl c)]) (st' := [.inl 4, .inl (σ1 o 2)]) rfl ?_
              refine jw_W_ic rfl (by unfold jw_rg; omega) (by unfold jw_rg; omega) (fun hc38 => ?_) (fun hc38 => ?_)
              · have hc38 : (σ1 o 2) < 4 := hc38
                exact jk_line_tail hX hrl hfi hE1 he hc e10 (fun hz => .inl ⟨by rw [e12]; exact hz, by omega, by have h3 := (hrl hz).2.2.2.2.1; have h4 := (hrl hz).2.2.2.2.2.1; omega⟩)
              · have hc38 : ¬ ((σ1 o 2) < 4) := hc38
                refine jw_W_n 1 (i' := 42) (ls' := [some (.inr (.inr 33)), some (.inl fi), some (.inl (σ 34 0)), some (.inl c)]) (st' := [.inr (.inr 33)]) rfl ?_
                refine jw_W_gf rfl rfl rfl ?_
                show jw_W (js_S n) _ md_81 43 [some (.inr (.inr 33)), some (.inl fi), some (.inl (σ 34 0)), some (.inl c)] [.inr (.inr 34)] σ1 _
                refine jw_W_n 2 (i' := 45) (ls' := [some (.inr (.inr 33)), some (.inl fi), some (.inl (σ 34 0)), some (.inl c)]) (st' := [.inl (σ 34 0), .inl 4, .inr (.inr 34)]) rfl ?_
                refine jw_W_call (as := [.inr (.inr 34), .inl 4, .inl (σ 34 0)]) (rest := []) rfl rfl rfl rfl (Nat.le_of_ble_eq_true rfl) (.inr rfl) (jk_failX hX1 (by omega) (by omega)) (by omega) ?_ rfl
                rintro r1 σ3 ⟨rfl, hE3, h30, h32⟩
                rename jw_H => σ3
                have hgd : ¬ (c = 0 ∨ ¬ (c = 1 ↔ fi = 1)) := by omega
                show jw_W (js_S n) _ md_81 46 [some (.inr (.inr 33)), some (.inl fi), some (.inl (σ 34 0)), some (.inl c)] [] σ3 _
                exact jk_line_tail hX hrl hfi (jk_E_tr hE1 hE3) he hc (h30.trans e10) (fun hz => .inr (by have h32z := h32 (e12.trans hz); have h3 := (hrl hz).2.2.2.2.1; have h4 := (hrl hz).2.2.2.2.2.1; exact ⟨by omega, by rw [h32z]; exact jk_pl_2 he hc hgd (by omega)⟩))
        · have hc35 : ¬ (c = 2) := hc35
          refine jw_W_n 2 (i' := 27) (ls' := [some (.inr (.inr 33)), some (.inl fi), some (.inl (σ 34 0)), some (.inl c)]) (st' := [.inl 3, .inl c]) rfl ?_
          refine jw_W_ic rfl (by unfold jw_rg; omega) (by unfold jw_rg; omega) (fun hc39 => ?_) (fun hc39 => ?_)
          · have hc39 : c ≠ 3 := hc39
            refine jw_W_n 2 (i' := 35) (ls' := [some (.inr (.inr 33)), some (.inl fi), some (.inl (σ 34 0)), some (.inl c)]) (st' := [.inl 4, .inl c]) rfl ?_
            refine jw_W_ic rfl (by unfold jw_rg; omega) (by unfold jw_rg; omega) (fun hc40 => ?_) (fun hc40 => ?_)
            · have hc40 : c ≠ 4 := hc40
              exact jk_line_tail hX hrl hfi hE1 he hc e10 (fun hz => .inl ⟨by rw [e12]; exact hz, by omega, by have h3 := (hrl hz).2.2.2.2.1; have h4 := (hrl hz).2.2.2.2.2.1; omega⟩)
            · have hc40 : c = 4 := Classical.not_not.mp hc40
              refine jw_W_n 1 (i' := 37) (ls' := [some (.inr (.inr 33)), some (.inl fi), some (.inl (σ 34 0)), some (.inl c)]) (st' := [.inr (.inr 33)]) rfl ?_
              refine jw_W_gf rfl rfl rfl ?_
              show jw_W (js_S n) _ md_81 38 [some (.inr (.inr 33)), some (.inl fi), some (.inl (σ 34 0)), some (.inl c)] [.inr (.inr ((σ1 33 2).toNat))] σ1 _
              rw [hto1]
              refine jw_W_gf rfl hpo.2.1 rfl ?_
              show jw_W (js_S n) _ md_81 39 [some (.inr (.inr 33)), some (.inl fi), some (.inl (σ 34 0)), some (.inl c)] [.inl (σ1 o 2)] σ1 _
              refine jw_W_n 1 (i' := 40) (ls' := [some (.inr (.inr 33)), some (.inl fi), some (.inl (σ 34 0)), some (.inl c)]) (st' := [.inl 4, .inl (σ1 o 2)]) rfl ?_
              refine jw_W_ic rfl (by unfold jw_rg; omega) (by unfold jw_rg; omega) (fun hc41 => ?_) (fun hc41 => ?_)
              · have hc41 : (σ1 o 2) < 4 := hc41
                exact jk_line_tail hX hrl hfi hE1 he hc e10 (fun hz => .inl ⟨by rw [e12]; exact hz, by omega, by have h3 := (hrl hz).2.2.2.2.1; have h4 := (hrl hz).2.2.2.2.2.1; omega⟩)
              · have hc41 : ¬ ((σ1 o 2) < 4) := hc41
                refine jw_W_n 1 (i' := 42) (ls' := [some (.inr (.inr 33)), some (.inl fi), some (.inl (σ 34 0)), some (.inl c)]) (st' := [.inr (.inr 33)]) rfl ?_
                refine jw_W_gf rfl rfl rfl ?_
                show jw_W (js_S n) _ md_81 43 [some (.inr (.inr 33)), some (.inl fi), some (.inl (σ 34 0)), some (.inl c)] [.inr (.inr 34)] σ1 _
                refine jw_W_n 2 (i' := 45) (ls' := [some (.inr (.inr 33)), some (.inl fi), some (.inl (σ 34 0)), some (.inl c)]) (st' := [.inl (σ 34 0), .inl 4, .inr (.inr 34)]) rfl ?_
                refine jw_W_call (as := [.inr (.inr 34), .inl 4, .inl (σ 34 0)]) (rest := []) rfl rfl rfl rfl (Nat.le_of_ble_eq_true rfl) (.inr rfl) (jk_failX hX1 (by omega) (by omega)) (by omega) ?_ rfl
                rintro r1 σ3 ⟨rfl, hE3, h30, h32⟩
                rename jw_H => σ3
                have hgd : ¬ (c = 0 ∨ ¬ (c = 1 ↔ fi = 1)) := by omega
                show jw_W (js_S n) _ md_81 46 [some (.inr (.inr 33)), some (.inl fi), some (.inl (σ 34 0)), some (.inl c)] [] σ3 _
                exact jk_line_tail hX hrl hfi (jk_E_tr hE1 hE3) he hc (h30.trans e10) (fun hz => .inr (by have h32z := h32 (e12.trans hz); have h3 := (hrl hz).2.2.2.2.1; have h4 := (hrl hz).2.2.2.2.2.1; exact ⟨by omega, by rw [h32z]; exact jk_pl_2 he hc hgd (by omega)⟩))
          · have hc39 : c = 3 := Classical.not_not.mp hc39
            refine jw_W_n 1 (i' := 29) (ls' := [some (.inr (.inr 33)), some (.inl fi), some (.inl (σ 34 0)), some (.inl c)]) (st' := [.inr (.inr 33)]) rfl ?_
            refine jw_W_gf rfl rfl rfl ?_
            show jw_W (js_S n) _ md_81 30 [some (.inr (.inr 33)), some (.inl fi), some (.inl (σ 34 0)), some (.inl c)] [.inr (.inr ((σ1 33 2).toNat))] σ1 _
            rw [hto1]
            refine jw_W_gf rfl hpo.2.1 rfl ?_
            show jw_W (js_S n) _ md_81 31 [some (.inr (.inr 33)), some (.inl fi), some (.inl (σ 34 0)), some (.inl c)] [.inl (σ1 o 1)] σ1 _
            refine jw_W_n 1 (i' := 32) (ls' := [some (.inr (.inr 33)), some (.inl fi), some (.inl (σ 34 0)), some (.inl c)]) (st' := [.inl 3, .inl (σ1 o 1)]) rfl ?_
            refine jw_W_ic rfl (by unfold jw_rg; omega) (by unfold jw_rg; omega) (fun hc42 => ?_) (fun hc42 => ?_)
            · have hc42 : (σ1 o 1) ≥ 3 := hc42
              refine jw_W_n 1 (i' := 42) (ls' := [some (.inr (.inr 33)), some (.inl fi), some (.inl (σ 34 0)), some (.inl c)]) (st' := [.inr (.inr 33)]) rfl ?_
              refine jw_W_gf rfl rfl rfl ?_
              show jw_W (js_S n) _ md_81 43 [some (.inr (.inr 33)), some (.inl fi), some (.inl (σ 34 0)), some (.inl c)] [.inr (.inr 34)] σ1 _
              refine jw_W_n 2 (i' := 45) (ls' := [some (.inr (.inr 33)), some (.inl fi), some (.inl (σ 34 0)), some (.inl c)]) (st' := [.inl (σ 34 0), .inl 4, .inr (.inr 34)]) rfl ?_
              refine jw_W_call (as := [.inr (.inr 34), .inl 4, .inl (σ 34 0)]) (rest := []) rfl rfl rfl rfl (Nat.le_of_ble_eq_true rfl) (.inr rfl) (jk_failX hX1 (by omega) (by omega)) (by omega) ?_ rfl
              rintro r1 σ3 ⟨rfl, hE3, h30, h32⟩
              rename jw_H => σ3
              have hgd : ¬ (c = 0 ∨ ¬ (c = 1 ↔ fi = 1)) := by omega
              show jw_W (js_S n) _ md_81 46 [some (.inr (.inr 33)), some (.inl fi), some (.inl (σ 34 0)), some (.inl c)] [] σ3 _
              exact jk_line_tail hX hrl hfi (jk_E_tr hE1 hE3) he hc (h30.trans e10) (fun hz => .inr (by have h32z := h32 (e12.trans hz); have h3 := (hrl hz).2.2.2.2.1; have h4 := (hrl hz).2.2.2.2.2.1; exact ⟨by omega, by rw [h32z]; exact jk_pl_2 he hc hgd (by omega)⟩))
            · have hc42 : ¬ ((σ1 o 1) ≥ 3) := hc42
              refine jw_W_n 2 (i' := 35) (ls' := [some (.inr (.inr 33)), some (.inl fi), some (.inl (σ 34 0)), some (.inl c)]) (st' := [.inl 4, .inl c]) rfl ?_
              refine jw_W_ic rfl (by unfold jw_rg; omega) (by unfold jw_rg; omega) (fun hc43 => ?_) (fun hc43 => ?_)
              · have hc43 : c ≠ 4 := hc43
                exact jk_line_tail hX hrl hfi hE1 he hc e10 (fun hz => .inl ⟨by rw [e12]; exact hz, by omega, by have h3 := (hrl hz).2.2.2.2.1; have h4 := (hrl hz).2.2.2.2.2.1; omega⟩)
              · have hc43 : c = 4 := Classical.not_not.mp hc43
                refine jw_W_n 1 (i' := 37) (ls' := [some (.inr (.inr 33)), some (.inl fi), some (.inl (σ 34 0)), some (.inl c)]) (st' := [.inr (.inr 33)]) rfl ?_
                refine jw_W_gf rfl rfl rfl ?_
                show jw_W (js_S n) _ md_81 38 [some (.inr (.inr 33)), some (.inl fi), some (.inl (σ 34 0)), some (.inl c)] [.inr (.inr ((σ1 33 2).toNat))] σ1 _
                rw [hto1]
                refine jw_W_gf rfl hpo.2.1 rfl ?_
                show jw_W (js_S n) _ md_81 39 [some (.inr (.inr 33)), some (.inl fi), some (.inl (σ 34 0)), some (.inl c)] [.inl (σ1 o 2)] σ1 _
                refine jw_W_n 1 (i' := 40) (ls' := [some (.inr (.inr 33)), some (.inl fi), some (.inl (σ 34 0)), some (.inl c)]) (st' := [.inl 4, .inl (σ1 o 2)]) rfl ?_
                refine jw_W_ic rfl (by unfold jw_rg; omega) (by unfold jw_rg; omega) (fun hc44 => ?_) (fun hc44 => ?_)
                · have hc44 : (σ1 o 2) < 4 := hc44
                  exact jk_line_tail hX hrl hfi hE1 he hc e10 (fun hz => .inl ⟨by rw [e12]; exact hz, by omega, by have h3 := (hrl hz).2.2.2.2.1; have h4 := (hrl hz).2.2.2.2.2.1; omega⟩)
                · have hc44 : ¬ ((σ1 o 2) < 4) := hc44
                  refine jw_W_n 1 (i' := 42) (ls' := [some (.inr (.inr 33)), some (.inl fi), some (.inl (σ 34 0)), some (.inl c)]) (st' := [.inr (.inr 33)]) rfl ?_
                  refine jw_W_gf rfl rfl rfl ?_
                  show jw_W (js_S n) _ md_81 43 [some (.inr (.inr 33)), some (.inl fi), some (.inl (σ 34 0)), some (.inl c)] [.inr (.inr 34)] σ1 _
                  refine jw_W_n 2 (i' := 45) (ls' := [some (.inr (.inr 33)), some (.inl fi), some (.inl (σ 34 0)), some (.inl c)]) (st' := [.inl (σ 34 0), .inl 4, .inr (.inr 34)]) rfl ?_
                  refine jw_W_call (as := [.inr (.inr 34), .inl 4, .inl (σ 34 0)]) (rest := []) rfl rfl rfl rfl (Nat.le_of_ble_eq_true rfl) (.inr rfl) (jk_failX hX1 (by omega) (by omega)) (by omega) ?_ rfl
                  rintro r1 σ3 ⟨rfl, hE3, h30, h32⟩
                  rename jw_H => σ3
                  have hgd : ¬ (c = 0 ∨ ¬ (c = 1 ↔ fi = 1)) := by omega
                  show jw_W (js_S n) _ md_81 46 [some (.inr (.inr 33)), some (.inl fi), some (.inl (σ 34 0)), some (.inl c)] [] σ3 _
                  exact jk_line_tail hX hrl hfi (jk_E_tr hE1 hE3) he hc (h30.trans e10) (fun hz => .inr (by have h32z := h32 (e12.trans hz); have h3 := (hrl hz).2.2.2.2.1; have h4 := (hrl hz).2.2.2.2.2.1; exact ⟨by omega, by rw [h32z]; exact jk_pl_2 he hc hgd (by omega)⟩))
      · have hc34 : ¬ (1 = fi) := hc34
        refine jw_W_n 1 (i' := 18) (ls' := [some (.inr (.inr 33)), some (.inl fi), some (.inl (σ 34 0)), some (.inl c)]) (st' := [.inr (.inr 33)]) rfl ?_
        refine jw_W_gf rfl rfl rfl ?_
        show jw_W (js_S n) _ md_81 19 [some (.inr (.inr 33)), some (.inl fi), some (.inl (σ 34 0)), some (.inl c)] [.inr (.inr 34)] σ1 _
        refine jw_W_n 2 (i' := 21) (ls' := [some (.inr (.inr 33)), some (.inl fi), some (.inl (σ 34 0)), some (.inl c)]) (st' := [.inl (σ 34 0), .inl 1, .inr (.inr 34)]) rfl ?_
        refine jw_W_call (as := [.inr (.inr 34), .inl 1, .inl (σ 34 0)]) (rest := []) rfl rfl rfl rfl (Nat.le_of_ble_eq_true rfl) (.inr rfl) (jk_failX hX1 (by omega) (by omega)) (by omega) ?_ rfl
        rintro r1 σ2 ⟨rfl, hE2, h20, h22⟩
        rename jw_H => σ2
        have hX2 := hE2.1
        have hto2 := hX2.2.1
        have eo2 : σ2 o = σ o := (hE2.2.2 o (by omega)).trans eo1
        have eo21 := congrFun eo2 1
        have eo22 := congrFun eo2 2
        have hbad : c = 0 ∨ ¬ (c = 1 ↔ fi = 1) := by omega
        show jw_W (js_S n) _ md_81 22 [some (.inr (.inr 33)), some (.inl fi), some (.inl (σ 34 0)), some (.inl c)] [] σ2 _
        refine jw_W_n 2 (i' := 24) (ls' := [some (.inr (.inr 33)), some (.inl fi), some (.inl (σ 34 0)), some (.inl c)]) (st' := [.inl 2, .inl c]) rfl ?_
        refine jw_W_ic rfl (by unfold jw_rg; omega) (by unfold jw_rg; omega) (fun hc45 => ?_) (fun hc45 => ?_)
        · have hc45 : c = 2 := hc45
          refine jw_W_n 1 (i' := 29) (ls' := [some (.inr (.inr 33)), some (.inl fi), some (.inl (σ 34 0)), some (.inl c)]) (st' := [.inr (.inr 33)]) rfl ?_
          refine jw_W_gf rfl rfl rfl ?_
          show jw_W (js_S n) _ md_81 30 [some (.inr (.inr 33)), some (.inl fi), some (.inl (σ 34 0)), some (.inl c)] [.inr (.inr ((σ2 33 2).toNat))] σ2 _
          rw [hto2]
          refine jw_W_gf rfl hpo.2.1 rfl ?_
          show jw_W (js_S n) _ md_81 31 [some (.inr (.inr 33)), some (.inl fi), some (.inl (σ 34 0)), some (.inl c)] [.inl (σ2 o 1)] σ2 _
          refine jw_W_n 1 (i' := 32) (ls' := [some (.inr (.inr 33)), some (.inl fi), some (.inl (σ 34 0)), some (.inl c)]) (st' := [.inl 3, .inl (σ2 o 1)]) rfl ?_
          refine jw_W_ic rfl (by unfold jw_rg; omega) (by unfold jw_rg; omega) (fun hc46 => ?_) (fun hc46 => ?_)
          · have hc46 : (σ2 o 1) ≥ 3 := hc46
            refine jw_W_n 1 (i' := 42) (ls' := [some (.inr (.inr 33)), some (.inl fi), some (.inl (σ 34 0)), some (.inl c)]) (st' := [.inr (.inr 33)]) rfl ?_
            refine jw_W_gf rfl rfl rfl ?_
            show jw_W (js_S n) _ md_81 43 [some (.inr (.inr 33)), some (.inl fi), some (.inl (σ 34 0)), some (.inl c)] [.inr (.inr 34)] σ2 _
            refine jw_W_n 2 (i' := 45) (ls' := [some (.inr (.inr 33)), some (.inl fi), some (.inl (σ 34 0)), some (.inl c)]) (st' := [.inl (σ 34 0), .inl 4, .inr (.inr 34)]) rfl ?_
            refine jw_W_call (as := [.inr (.inr 34), .inl 4, .inl (σ 34 0)]) (rest := []) rfl rfl rfl rfl (Nat.le_of_ble_eq_true rfl) (.inr rfl) (jk_failX hX2 (by omega) (by omega)) (by omega) ?_ rfl
            rintro r1 σ23 ⟨rfl, hE3, h30, h32⟩
            rename jw_H => σ23
            show jw_W (js_S n) _ md_81 46 [some (.inr (.inr 33)), some (.inl fi), some (.inl (σ 34 0)), some (.inl c)] [] σ23 _
            exact jk_line_tail hX hrl hfi (jk_E_tr hE1 (jk_E_tr hE2 hE3)) he hc (h30.trans (h20.trans e10)) (fun hz => .inr (by have h22z := h22 (e12.trans hz); have h32z := hE3.2.1.2.2.1 (by omega); exact ⟨by omega, by rw [h32z, h22z]; exact jk_pl_1 he hc hbad⟩))
          · have hc46 : ¬ ((σ2 o 1) ≥ 3) := hc46
            refine jw_W_n 2 (i' := 35) (ls' := [some (.inr (.inr 33)), some (.inl fi), some (.inl (σ 34 0)), some (.inl c)]) (st' := [.inl 4, .inl c]) rfl ?_
            refine jw_W_ic rfl (by unfold jw_rg; omega) (by unfold jw_rg; omega) (fun hc47 => ?_) (fun hc47 => ?_)
            · have hc47 : c ≠ 4 := hc47
              exact jk_line_tail hX hrl hfi (jk_E_tr hE1 hE2) he hc (h20.trans e10) (fun hz => .inr (by have h22z := h22 (e12.trans hz); exact ⟨by omega, by rw [h22z]; exact jk_pl_1 he hc hbad⟩))
            · have hc47 : c = 4 := Classical.not_not.mp hc47
              refine jw_W_n 1 (i' := 37) (ls' := [some (.inr (.inr 33)), some (.inl fi), some (.inl (σ 34 0)), some (.inl c)]) (st' := [.inr (.inr 33)]) rfl ?_
              refine jw_W_gf rfl rfl rfl ?_
              show jw_W (js_S n) _ md_81 38 [some (.inr (.inr 33)), some (.inl fi), some (.inl (σ 34 0)), some (.inl c)] [.inr (.inr ((σ2 33 2).toNat))] σ2 _
              rw [hto2]
              refine jw_W_gf rfl hpo.2.1 rfl ?_
              show jw_W (js_S n) _ md_81 39 [some (.inr (.inr 33)), some (.inl fi), some (.inl (σ 34 0)), some (.inl c)] [.inl (σ2 o 2)] σ2 _
              refine jw_W_n 1 (i' := 40) (ls' := [some (.inr (.inr 33)), some (.inl fi), some (.inl (σ 34 0)), some (.inl c)]) (st' := [.inl 4, .inl (σ2 o 2)]) rfl ?_
              refine jw_W_ic rfl (by unfold jw_rg; omega) (by unfold jw_rg; omega) (fun hc48 => ?_) (fun hc48 => ?_)
              · have hc48 : (σ2 o 2) < 4 := hc48
                exact jk_line_tail hX hrl hfi (jk_E_tr hE1 hE2) he hc (h20.trans e10) (fun hz => .inr (by have h22z := h22 (e12.trans hz); exact ⟨by omega, by rw [h22z]; exact jk_pl_1 he hc hbad⟩))
              · have hc48 : ¬ ((σ2 o 2) < 4) := hc48
                refine jw_W_n 1 (i' := 42) (ls' := [some (.inr (.inr 33)), some (.inl fi), some (.inl (σ 34 0)), some (.inl c)]) (st' := [.inr (.inr 33)]) rfl ?_
                refine jw_W_gf rfl rfl rfl ?_
                show jw_W (js_S n) _ md_81 43 [some (.inr (.inr 33)), some (.inl fi), some (.inl (σ 34 0)), some (.inl c)] [.inr (.inr 34)] σ2 _
                refine jw_W_n 2 (i' := 45) (ls' := [some (.inr (.inr 33)), some (.inl fi), some (.inl (σ 34 0)), some (.inl c)]) (st' := [.inl (σ 34 0), .inl 4, .inr (.inr 34)]) rfl ?_
                refine jw_W_call (as := [.inr (.inr 34), .inl 4, .inl (σ 34 0)]) (rest := []) rfl rfl rfl rfl (Nat.le_of_ble_eq_true rfl) (.inr rfl) (jk_failX hX2 (by omega) (by omega)) (by omega) ?_ rfl
                rintro r1 σ23 ⟨rfl, hE3, h30, h32⟩
                rename jw_H => σ23
                show jw_W (js_S n) _ md_81 46 [some (.inr (.inr 33)), some (.inl fi), some (.inl (σ 34 0)), some (.inl c)] [] σ23 _
                exact jk_line_tail hX hrl hfi (jk_E_tr hE1 (jk_E_tr hE2 hE3)) he hc (h30.trans (h20.trans e10)) (fun hz => .inr (by have h22z := h22 (e12.trans hz); have h32z := hE3.2.1.2.2.1 (by omega); exact ⟨by omega, by rw [h32z, h22z]; exact jk_pl_1 he hc hbad⟩))
        · have hc45 : ¬ (c = 2) := hc45
          refine jw_W_n 2 (i' := 27) (ls' := [some (.inr (.inr 33)), some (.inl fi), some (.inl (σ 34 0)), some (.inl c)]) (st' := [.inl 3, .inl c]) rfl ?_
          refine jw_W_ic rfl (by unfold jw_rg; omega) (by unfold jw_rg; omega) (fun hc49 => ?_) (fun hc49 => ?_)
          · have hc49 : c ≠ 3 := hc49
            refine jw_W_n 2 (i' := 35) (ls' := [some (.inr (.inr 33)), some (.inl fi), some (.inl (σ 34 0)), some (.inl c)]) (st' := [.inl 4, .inl c]) rfl ?_
            refine jw_W_ic rfl (by unfold jw_rg; omega) (by unfold jw_rg; omega) (fun hc50 => ?_) (fun hc50 => ?_)
            · have hc50 : c ≠ 4 := hc50
              exact jk_line_tail hX hrl hfi (jk_E_tr hE1 hE2) he hc (h20.trans e10) (fun hz => .inr (by have h22z := h22 (e12.trans hz); exact ⟨by omega, by rw [h22z]; exact jk_pl_1 he hc hbad⟩))
            · have hc50 : c = 4 := Classical.not_not.mp hc50
              refine jw_W_n 1 (i' := 37) (ls' := [some (.inr (.inr 33)), some (.inl fi), some (.inl (σ 34 0)), some (.inl c)]) (st' := [.inr (.inr 33)]) rfl ?_
              refine jw_W_gf rfl rfl rfl ?_
              show jw_W (js_S n) _ md_81 38 [some (.inr (.inr 33)), some (.inl fi), some (.inl (σ 34 0)), some (.inl c)] [.inr (.inr ((σ2 33 2).toNat))] σ2 _
              rw [hto2]
              refine jw_W_gf rfl hpo.2.1 rfl ?_
              show jw_W (js_S n) _ md_81 39 [some (.inr (.inr 33)), some (.inl fi), some (.inl (σ 34 0)), some (.inl c)] [.inl (σ2 o 2)] σ2 _
              refine jw_W_n 1 (i' := 40) (ls' := [some (.inr (.inr 33)), some (.inl fi), some (.inl (σ 34 0)), some (.inl c)]) (st' := [.inl 4, .inl (σ2 o 2)]) rfl ?_
              refine jw_W_ic rfl (by unfold jw_rg; omega) (by unfold jw_rg; omega) (fun hc51 => ?_) (fun hc51 => ?_)
              · have hc51 : (σ2 o 2) < 4 := hc51
                exact jk_line_tail hX hrl hfi (jk_E_tr hE1 hE2) he hc (h20.trans e10) (fun hz => .inr (by have h22z := h22 (e12.trans hz); exact ⟨by omega, by rw [h22z]; exact jk_pl_1 he hc hbad⟩))
              · have hc51 : ¬ ((σ2 o 2) < 4) := hc51
                refine jw_W_n 1 (i' := 42) (ls' := [some (.inr (.inr 33)), some (.inl fi), some (.inl (σ 34 0)), some (.inl c)]) (st' := [.inr (.inr 33)]) rfl ?_
                refine jw_W_gf rfl rfl rfl ?_
                show jw_W (js_S n) _ md_81 43 [some (.inr (.inr 33)), some (.inl fi), some (.inl (σ 34 0)), some (.inl c)] [.inr (.inr 34)] σ2 _
                refine jw_W_n 2 (i' := 45) (ls' := [some (.inr (.inr 33)), some (.inl fi), some (.inl (σ 34 0)), some (.inl c)]) (st' := [.inl (σ 34 0), .inl 4, .inr (.inr 34)]) rfl ?_
                refine jw_W_call (as := [.inr (.inr 34), .inl 4, .inl (σ 34 0)]) (rest := []) rfl rfl rfl rfl (Nat.le_of_ble_eq_true rfl) (.inr rfl) (jk_failX hX2 (by omega) (by omega)) (by omega) ?_ rfl
                rintro r1 σ23 ⟨rfl, hE3, h30, h32⟩
                rename jw_H => σ23
                show jw_W (js_S n) _ md_81 46 [some (.inr (.inr 33)), some (.inl fi), some (.inl (σ 34 0)), some (.inl c)] [] σ23 _
                exact jk_line_tail hX hrl hfi (jk_E_tr hE1 (jk_E_tr hE2 hE3)) he hc (h30.trans (h20.trans e10)) (fun hz => .inr (by have h22z := h22 (e12.trans hz); have h32z := hE3.2.1.2.2.1 (by omega); exact ⟨by omega, by rw [h32z, h22z]; exact jk_pl_1 he hc hbad⟩))
          · have hc49 : c = 3 := Classical.not_not.mp hc49
            refine jw_W_n 1 (i' := 29) (ls' := [some (.inr (.inr 33)), some (.inl fi), some (.inl (σ 34 0)), some (.inl c)]) (st' := [.inr (.inr 33)]) rfl ?_
            refine jw_W_gf rfl rfl rfl ?_
            show jw_W (js_S n) _ md_81 30 [some (.inr (.inr 33)), some (.inl fi), some (.inl (σ 34 0)), some (.inl c)] [.inr (.inr ((σ2 33 2).toNat))] σ2 _
            rw [hto2]
            refine jw_W_gf rfl hpo.2.1 rfl ?_
            show jw_W (js_S n) _ md_81 31 [some (.inr (.inr 33)), some (.inl fi), some (.inl (σ 34 0)), some (.inl c)] [.inl (σ2 o 1)] σ2 _
            refine jw_W_n 1 (i' := 32) (ls' := [some (.inr (.inr 33)), some (.inl fi), some (.inl (σ 34 0)), some (.inl c)]) (st' := [.inl 3, .inl (σ2 o 1)]) rfl ?_
            refine jw_W_ic rfl (by unfold jw_rg; omega) (by unfold jw_rg; omega) (fun hc52 => ?_) (fun hc52 => ?_)
            · have hc52 : (σ2 o 1) ≥ 3 := hc52
              refine jw_W_n 1 (i' := 42) (ls' := [some (.inr (.inr 33)), some (.inl fi), some (.inl (σ 34 0)), some (.inl c)]) (st' := [.inr (.inr 33)]) rfl ?_
              refine jw_W_gf rfl rfl rfl ?_
              show jw_W (js_S n) _ md_81 43 [some (.inr (.inr 33)), some (.inl fi), some (.inl (σ 34 0)), some (.inl c)] [.inr (.inr 34)] σ2 _
              refine jw_W_n 2 (i' := 45) (ls' := [some (.inr (.inr 33)), some (.inl fi), some (.inl (σ 34 0)), some (.inl c)]) (st' := [.inl (σ 34 0), .inl 4, .inr (.inr 34)]) rfl ?_
              refine jw_W_call (as := [.inr (.inr 34), .inl 4, .inl (σ 34 0)]) (rest := []) rfl rfl rfl rfl (Nat.le_of_ble_eq_true rfl) (.inr rfl) (jk_failX hX2 (by omega) (by omega)) (by omega) ?_ rfl
              rintro r1 σ23 ⟨rfl, hE3, h30, h32⟩
              rename jw_H => σ23
              show jw_W (js_S n) _ md_81 46 [some (.inr (.inr 33)), some (.inl fi), some (.inl (σ 34 0)), some (.inl c)] [] σ23 _
              exact jk_line_tail hX hrl hfi (jk_E_tr hE1 (jk_E_tr hE2 hE3)) he hc (h30.trans (h20.trans e10)) (fun hz => .inr (by have h22z := h22 (e12.trans hz); have h32z := hE3.2.1.2.2.1 (by omega); exact ⟨by omega, by rw [h32z, h22z]; exact jk_pl_1 he hc hbad⟩))
            · have hc52 : ¬ ((σ2 o 1) ≥ 3) := hc52
              refine jw_W_n 2 (i' := 35) (ls' := [some (.inr (.inr 33)), some (.inl fi), some (.inl (σ 34 0)), some (.inl c)]) (st' := [.inl 4, .inl c]) rfl ?_
              refine jw_W_ic rfl (by unfold jw_rg; omega) (by unfold jw_rg; omega) (fun hc53 => ?_) (fun hc53 => ?_)
              · have hc53 : c ≠ 4 := hc53
                exact jk_line_tail hX hrl hfi (jk_E_tr hE1 hE2) he hc (h20.trans e10) (fun hz => .inr (by have h22z := h22 (e12.trans hz); exact ⟨by omega, by rw [h22z]; exact jk_pl_1 he hc hbad⟩))
              · have hc53 : c = 4 := Classical.not_not.mp hc53
                refine jw_W_n 1 (i' := 37) (ls' := [some (.inr (.inr 33)), some (.inl fi), some (.inl (σ 34 0)), some (.inl c)]) (st' := [.inr (.inr 33)]) rfl ?_
                refine jw_W_gf rfl rfl rfl ?_
                show jw_W (js_S n) _ md_81 38 [some (.inr (.inr 33)), some (.inl fi), some (.inl (σ 34 0)), some (.inl c)] [.inr (.inr ((σ2 33 2).toNat))] σ2 _
                rw [hto2]
                refine jw_W_gf rfl hpo.2.1 rfl ?_
                show jw_W (js_S n) _ md_81 39 [some (.inr (.inr 33)), some (.inl fi), some (.inl (σ 34 0)), some (.inl c)] [.inl (σ2 o 2)] σ2 _
                refine jw_W_n 1 (i' := 40) (ls' := [some (.inr (.inr 33)), some (.inl fi), some (.inl (σ 34 0)), some (.inl c)]) (st' := [.inl 4, .inl (σ2 o 2)]) rfl ?_
                refine jw_W_ic rfl (by unfold jw_rg; omega) (by unfold jw_rg; omega) (fun hc54 => ?_) (fun hc54 => ?_)
                · have hc54 : (σ2 o 2) < 4 := hc54
                  exact jk_line_tail hX hrl hfi (jk_E_tr hE1 hE2) he hc (h20.trans e10) (fun hz => .inr (by have h22z := h22 (e12.trans hz); exact ⟨by omega, by rw [h22z]; exact jk_pl_1 he hc hbad⟩))
                · have hc54 : ¬ ((σ2 o 2) < 4) := hc54
                  refine jw_W_n 1 (i' := 42) (ls' := [some (.inr (.inr 33)), some (.inl fi), some (.inl (σ 34 0)), some (.inl c)]) (st' := [.inr (.inr 33)]) rfl ?_
                  refine jw_W_gf rfl rfl rfl ?_
                  show jw_W (js_S n) _ md_81 43 [some (.inr (.inr 33)), some (.inl fi), some (.inl (σ 34 0)), some (.inl c)] [.inr (.inr 34)] σ2 _
                  refine jw_W_n 2 (i' := 45) (ls' := [some (.inr (.inr 33)), some (.inl fi), some (.inl (σ 34 0)), some (.inl c)]) (st' := [.inl (σ 34 0), .inl 4, .inr (.inr 34)]) rfl ?_
                  refine jw_W_call (as := [.inr (.inr 34), .inl 4, .inl (σ 34 0)]) (rest := []) rfl rfl rfl rfl (Nat.le_of_ble_eq_true rfl) (.inr rfl) (jk_failX hX2 (by omega) (by omega)) (by omega) ?_ rfl
                  rintro r1 σ23 ⟨rfl, hE3, h30, h32⟩
                  rename jw_H => σ23
                  show jw_W (js_S n) _ md_81 46 [some (.inr (.inr 33)), some (.inl fi), some (.inl (σ 34 0)), some (.inl c)] [] σ23 _
                  exact jk_line_tail hX hrl hfi (jk_E_tr hE1 (jk_E_tr hE2 hE3)) he hc (h30.trans (h20.trans e10)) (fun hz => .inr (by have h22z := h22 (e12.trans hz); have h32z := hE3.2.1.2.2.1 (by omega); exact ⟨by omega, by rw [h32z, h22z]; exact jk_pl_1 he hc hbad⟩))

/-! ===== a rule, the reference ===== -/
/-- the law's text alone changes -/
def jo_g (σ σ' : jw_H) : Prop := (∀ c, c ≠ 103 → (c < 108 ∨ 113 < c) → σ' c = σ c) ∧ ∀ j, j ≠ 8 → (j < 10 ∨ 15 < j) → σ' 103 j = σ 103 j
theorem jo_g_rf (σ : jw_H) : jo_g σ σ := ⟨fun _ _ _ => rfl, fun _ _ _ => rfl⟩
theorem jo_g_tr {σ σ' σ'' : jw_H} (h : jo_g σ σ') (k : jo_g σ' σ'') : jo_g σ σ'' := ⟨fun c h1 h2 => (k.1 c h1 h2).trans (h.1 c h1 h2), fun j h1 h2 => (k.2 j h1 h2).trans (h.2 j h1 h2)⟩
theorem jo_g_f {σ σ' : jw_H} (h : jo_f σ σ') : jo_g σ σ' := ⟨fun c h1 h2 => h.1 c h1 (by omega) (by omega), fun j h1 h2 => h.2 j h1 (by omega) (by omega) (by omega) (by omega) (by omega)⟩
theorem jo_g_up {σ σ' : jw_H} {o : Nat} {j v : Int} (h : jo_g σ σ') (hj : (o = 103 ∧ (j = 8 ∨ (10 ≤ j ∧ j ≤ 15))) ∨ (108 ≤ o ∧ o ≤ 113)) : jo_g σ (jw_up σ' o j v) := by
  refine ⟨fun c h1 h2 => ?_, fun j' h1 h2 => ?_⟩
  · rw [jw_up_out _ _ _ (by omega)]
    exact h.1 c h1 h2
  · rw [jw_up_ne _ (by omega)]
    exact h.2 j' h1 h2
/-- the rule t as the reader holds it -/
def jo_rw (σ : jw_H) (c : jo_C) (t : Int) (q : jl_Q) : Prop := σ 110 t = q.1 ∧ (q.1 = 118 ∨ q.1 = 120) ∧ 0 ≤ σ 111 t ∧ σ 112 t = σ 111 t + (q.2.1.length : Int) ∧ σ 113 t = σ 112 t + (q.2.2.length : Int) ∧ σ 113 t ≤ (c.length : Int) ∧ (∀ (j : Nat) (y : Int × Int), (q.2.1 ++ q.2.2)[j]? = some y → c[(σ 111 t).toNat + j]? = some y) ∧ jl_gd true q.2.2 ∧ (q.1 = 118 → jl_gd false q.2.1) ∧ (q.1 = 120 → q.2.1 = [])
/-- between two rules -/
def jo_ru (b : Int → Int) (m i : Int) (L : List jl_Q) (c : jo_C) (σ : jw_H) : Prop := jk_tr σ b ∧ σ 103 9 = m ∧ m ≤ 240 ∧ σ 103 8 = i ∧ (0 ≤ i ∧ i ≤ m) ∧ σ 103 13 = (c.length : Int) ∧ (c.length : Int) ≤ i ∧ jo_cr σ c ∧ σ 103 15 = (L.length : Int) ∧ (L.length : Int) ≤ 16 ∧ ∀ (t : Nat) (q : jl_Q), L[t]? = some q → jo_rw σ c (t : Int) q
/-- what reading a rule leaves -/
def jo_rz (b : Int → Int) (m i : Int) (L : List jl_Q) (c : jo_C) (σ : jw_H) (r : Option jw_V) (σ' : jw_H) : Prop := (r = some (.inl 0) ∧ (jl_rl b m (L.length : Int) i).1 ≠ 0 ∧ jo_g σ σ' ∧ σ' 103 10 = (jl_rl b m (L.length : Int) i).1) ∨ (r = some (.inl 1) ∧ (jl_rl b m (L.length : Int) i).1 = 0 ∧ jo_g σ σ' ∧ ∃ c', jo_ru b m (jl_rl b m (L.length : Int) i).2.1 (L ++ [(jl_rl b m (L.length : Int) i).2.2]) c' σ')
theorem jo_rw_fr {σ σ' : jw_H} {c c' : jo_C} {t : Int} {q : jl_Q} (h : jo_rw σ c t q) (e0 : σ' 110 t = σ 110 t) (e1 : σ' 111 t = σ 111 t) (e2 : σ' 112 t = σ 112 t) (e3 : σ' 113 t = σ 113 t) : jo_rw σ' (c ++ c') t q := by
  obtain ⟨h1, h2, h3, h4, h5, h6, h7, h8⟩ := h
  unfold jo_rw
  rw [e0, e1, e2, e3]
  refine ⟨h1, h2, h3, h4, h5, by rw [List.length_append]; omega, fun j y hy => ?_, h8⟩
  have := h7 j y hy
  rw [List.getElem?_append_left (List.getElem?_eq_some_iff.mp this).1]
  exact this
section JOW
variable {b : Int → Int} {m i x : Int} {L : List jl_Q} {c : jo_C} {V : jl_R}
theorem jl_rl_e (h : jk_h b m i = x) (hx : x = 118 ∨ x = 120) (h2 : ¬ (16 ≤ (L.length : Int))) (hV : jl_Vr b m x i = V) (h3 : V.1 ≠ 0) : (jl_rl b m (L.length : Int) i).1 ≠ 0 ∧ (jl_rl b m (L.length : Int) i).1 = V.1 := by
  rw [jl_rl_3 (by rw [h]; exact hx) h2 (by rw [h]; exact hV) h3]
  exact ⟨h3, rfl⟩
end JOW
/-- the end of a rule: the rows behind its condition -/
theorem jo_rule_fin {b : Int → Int} {m i x j1 o : Int} {L : List jl_Q} {c A C : jo_C} {σ0 σ σ' : jw_H} (hu : jo_ru b m i L c σ0) (hR : jo_rp b 0 m j1 o [] (c ++ A ++ C) σ) (hl : (L.length : Int) < 16) (e110 : σ 110 (L.length : Int) = x) (e111 : σ 111 (L.length : Int) = (c.length : Int)) (e112 : σ 112 (L.length : Int) = ((c ++ A).length : Int)) (e15 : σ 103 15 = (L.length : Int)) (n : ∀ t : Int, t ≠ (L.length : Int) → σ 110 t = σ0 110 t ∧ σ 111 t = σ0 111 t ∧ σ 112 t = σ0 112 t ∧ σ 113 t = σ0 113 t) (hx : x = 118 ∨ x = 120) (g1 : jl_gd true C) (g2 : x = 118 → jl_gd false A) (g3 : x = 120 → A = []) (hs : σ' = jw_up (jw_up σ 113 (L.length : Int) (σ 103 13)) 103 15 (σ 103 15 + 1)) : jo_ru b m j1 (L ++ [(x, A, C)]) (c ++ A ++ C) σ' := by
  obtain ⟨ht, em, h240, h8, hi, h12, ho, h13, h14, hb, hc, hw⟩ := hR
  obtain ⟨-, -, -, -, -, -, -, -, -, -, hru⟩ := hu
  have hl1 : ((L ++ [(x, A, C)]).length : Int) = (L.length : Int) + 1 := by
    rw [List.length_append]
    rfl
  have e9 : σ' 103 9 = σ 103 9 := by rw [hs]; rfl
  have e8 : σ' 103 8 = σ 103 8 := by rw [hs]; rfl
  have w1 : ∀ t, σ' 110 t = σ 110 t := fun t => by rw [hs]; rfl
  have w2 : ∀ t, σ' 111 t = σ 111 t := fun t => by rw [hs]; rfl
  have w3 : ∀ t, σ' 112 t = σ 112 t := fun t => by rw [hs]; rfl
  have w4 : ∀ t, t ≠ (L.length : Int) → σ' 113 t = σ 113 t := fun t d => by rw [hs, jw_up_out _ _ _ (by omega), jw_up_ne _ (by omega)]
  have w5 : σ' 113 (L.length : Int) = ((c ++ A ++ C).length : Int) := by rw [hs, jw_up_out _ _ _ (by omega), jw_up_eq, h13]
  have hla : ((c ++ A).length : Int) = (c.length : Int) + (A.length : Int) := by
    rw [List.length_append]
    rfl
  have hlb : ((c ++ A ++ C).length : Int) = (c.length : Int) + (A.length : Int) + (C.length : Int) := by
    rw [List.length_append, List.length_append]
    rfl
  refine ⟨⟨by omega, by omega, fun j j0 j2 => ?_⟩, by omega, h240, by omega, hi, by rw [hs]; exact h13, by omega, jo_cr_fr hc (by rw [hs]; rfl), by rw [hl1, hs, jw_up_eq]; omega, by omega, fun t q hq => ?_⟩
  · have := ht.2.2 j j0 (by omega)
    rw [hs]
    exact this
  · by_cases htl : t < L.length
    · rw [List.getElem?_append_left htl] at hq
      have hold := hru t q hq
      obtain ⟨n1, n2, n3, n4⟩ := n (t : Int) (by omega)
      have := jo_rw_fr (σ' := σ') (c' := A ++ C) hold ((w1 _).trans n1) ((w2 _).trans n2) ((w3 _).trans n3) ((w4 _ (by omega)).trans n4)
      rw [← List.append_assoc] at this
      exact this
    · rw [List.getElem?_append_right (by omega)] at hq
      have ht2 : t - L.length = 0 := by
        have := (List.getElem?_eq_some_iff.mp hq).1
        have e1 : ([(x, A, C)] : List jl_Q).length = 1 := rfl
        omega
      rw [ht2] at hq
      obtain rfl : (x, A, C) = q := Option.some.inj hq
      have ht3 : (t : Int) = (L.length : Int) := by omega
      rw [ht3]
      refine ⟨(w1 _).trans e110, hx, by rw [w2, e111]; omega, ?_, ?_, by rw [w5]; exact Int.le_refl _, fun j y hy => ?_, g1, g2, g3⟩
      · rw [w3, w2, e112, e111, hla]
      · rw [w5, w3, e112, hlb, hla]
      · rw [w2, e111, Int.toNat_natCast, List.append_assoc, List.getElem?_append_right (by omega), show c.length + j - c.length = j by omega]
        exact hy
theorem jo_rp_112 {b : Int → Int} {d m i o : Int} {W c : jo_C} {σ σ' : jw_H} {t v : Int} (h : jo_rp b d m i o W c σ) (hs : σ' = jw_up σ 112 t v) : jo_rp b d m i o W c σ' := by
  obtain ⟨⟨ht1, ht2, ht3⟩, em, h240, h8, hi, h12, ho, h13, h14, hb, hc, hw⟩ := h
  refine ⟨⟨by rw [hs]; exact ht1, by rw [hs]; exact ht2, fun j j0 j1 => ?_⟩, by rw [hs]; exact em, h240, by rw [hs]; exact h8, hi, by rw [hs]; exact h12, ho, by rw [hs]; exact h13, by rw [hs]; exact h14, hb, jo_cr_fr hc (by rw [hs]; rfl), jo_ws_fr W hw (fun j _ => by rw [hs]; rfl)⟩
  rw [hs] at j1 ⊢
  exact ht3 j j0 j1
theorem jo_nq_or {n D : Nat} {b : Int → Int} {d m i : Int} {c : jo_C} {σ : jw_H} (h : jw_T (js_S n) D 204 [.inr (.inr 103)] σ (fun r σ' => jo_nq b d m i c σ r σ')) : jw_T (js_S n) D 204 [.inr (.inr 103)] σ (fun r σ' => (r = some (.inl 0) ∧ jo_nq b d m i c σ (some (.inl 0)) σ') ∨ (r = some (.inl 1) ∧ jo_nq b d m i c σ (some (.inl 1)) σ')) := by
  refine jw_T_mono h (Nat.le_refl _) (fun r σ' hq => ?_)
  have hq0 := hq
  rcases hq with ⟨rfl, -⟩ | ⟨rfl, -⟩ | ⟨rfl, -⟩ | ⟨rfl, -⟩
  · exact .inl ⟨rfl, hq0⟩
  · exact .inl ⟨rfl, hq0⟩
  · exact .inl ⟨rfl, hq0⟩
  · exact .inr ⟨rfl, hq0⟩
theorem jo_ne {a b : Int} (h : (some (Sum.inl a) : Option jw_V) = some (.inl b)) : a = b := by
  have := Option.some.inj h
  exact Sum.inl.inj this
theorem jo_rule_tail {n : Nat} {b : Int → Int} {m i x : Int} {L : List jl_Q} {c : jo_C} {V : jl_R} {σ σ3 : jw_H} (hU : jo_ru b m i L c σ) (hx : jk_h b m i = x) (hx2 : x = 118 ∨ x = 120) (hl : ¬ (16 ≤ (L.length : Int))) (hV : jl_Vr b m x i = V) (hV0 : V.1 = 0) (hR3 : jo_rp b 0 m V.2.1 0 [] (c ++ V.2.2) σ3) (e15 : σ3 103 15 = (L.length : Int)) (e110 : σ3 110 (L.length : Int) = x) (e111 : σ3 111 (L.length : Int) = (c.length : Int)) (nn : ∀ t : Int, t ≠ (L.length : Int) → σ3 110 t = σ 110 t ∧ σ3 111 t = σ 111 t ∧ σ3 112 t = σ 112 t ∧ σ3 113 t = σ 113 t) (gV : x = 118 → jl_gd false V.2.2) (gW : x = 120 → V.2.2 = []) (hg : jo_g σ σ3) : jw_W (js_S n) 7 md_205 58 [some (.inr (.inr 103)), some (.inl x)] [] σ3 (fun r σ' => jo_rz b m i L c σ r σ') := by
  have h16 : (L.length : Int) < 16 := by omega
  have hgC : jl_gR true (jl_cnd b m (jl_T b m 5) (V.2.1 + 1)) := jl_gR_cnd (fun i i0 => jl_gR_T 5 i0) (fun i i0 => jl_ok_T 5 i0) (by have := hR3.2.2.2.2.1; omega)
  have hR3c := hR3
  obtain ⟨ht, em, h240, h8, hi, h12, ho, h13, h14, hb, hc, hw⟩ := hR3c
  have x1 : jk_h b m i = 118 ∨ jk_h b m i = 120 := by omega
  have hV1 : jl_Vr b m (jk_h b m i) i = V := by rw [hx]; exact hV
  have bad : ∀ {σ4 σ5 : jw_H}, σ4 = jw_up σ3 112 (σ3 103 15) (σ3 103 13) → jo_nq b 0 m V.2.1 (c ++ V.2.2) σ4 (some (.inl 0)) σ5 → jo_rz b m i L c σ (some (.inl 0)) σ5 := by
    intro σ4 σ5 hs4 hn
    have hg4 : jo_g σ σ4 := by rw [hs4]; exact jo_g_up hg (by omega)
    rcases hn with ⟨-, hf, h40, he⟩ | ⟨-, hf, h40, hz, he⟩ | ⟨-, hf, h40, hz, h41, he⟩ | ⟨h0, -⟩
    · have e := jl_rl_4 x1 hl hV1 hV0 h40
      exact .inl ⟨rfl, by rw [e]; show -1000 * 1 - V.2.1 ≠ 0; omega, jo_g_tr hg4 (jo_g_f hf), by rw [e]; exact he⟩
    · have e := jl_rl_5 x1 hl hV1 hV0 h40 rfl hz
      exact .inl ⟨rfl, by rw [e]; exact hz, jo_g_tr hg4 (jo_g_f hf), by rw [e]; exact he⟩
    · have e := jl_rl_6 x1 hl hV1 hV0 h40 rfl hz h41
      have hok := jl_ok_cnd (b := b) (m := m) (T := jl_T b m 5) (fun i i0 => jl_ok_T 5 i0) (i := V.2.1 + 1) (by omega) hz
      exact .inl ⟨rfl, by rw [e]; show -1000 * 1 - (jl_cnd b m (jl_T b m 5) (V.2.1 + 1)).2.1 ≠ 0; omega, jo_g_tr hg4 (jo_g_f hf), by rw [e]; exact he⟩
    · exact absurd (jo_ne h0) (by omega)
  have good : ∀ {σ4 σ6 σ7 : jw_H}, σ4 = jw_up σ3 112 (σ3 103 15) (σ3 103 13) → jo_nq b 0 m V.2.1 (c ++ V.2.2) σ4 (some (.inl 1)) σ6 → σ7 = jw_up (jw_up σ6 113 (σ6 103 15) (σ6 103 13)) 103 15 (σ6 103 15 + 1) → jo_rz b m i L c σ (some (.inl 1)) σ7 := by
    intro σ4 σ6 σ7 hs4 hn hs7
    have hg4 : jo_g σ σ4 := by rw [hs4]; exact jo_g_up hg (by omega)
    rcases hn with ⟨h0, -⟩ | ⟨h0, -⟩ | ⟨h0, -⟩ | ⟨-, hf, h40, hz, h41, o', hR6⟩
    · exact absurd (jo_ne h0) (by omega)
    · exact absurd (jo_ne h0) (by omega)
    · exact absurd (jo_ne h0) (by omega)
    · have e := jl_rl_7 x1 hl hV1 hV0 h40 rfl hz h41
      have r15 : σ6 103 15 = (L.length : Int) := by
        rw [hf.2 15 (by omega) (by omega) (by omega) (by omega) (by omega) (by omega), hs4]
        exact e15
      have r0 : ∀ r, r = 110 ∨ r = 111 ∨ r = 113 → σ6 r = σ3 r := fun r hr => by
        rw [hf.1 r (by omega) (by omega) (by omega), hs4, jw_up_out _ _ _ (by omega)]
      have r2 : ∀ t, σ6 112 t = if t = (L.length : Int) then ((c ++ V.2.2).length : Int) else σ3 112 t := fun t => by
        rw [hf.1 112 (by omega) (by omega) (by omega), hs4, e15, h13]
        by_cases ht : t = (L.length : Int)
        · rw [if_pos ht, ht, jw_up_eq]
        · rw [if_neg ht, jw_up_ne _ (by omega)]
      rw [r15] at hs7
      refine .inr ⟨rfl, by rw [e], jo_g_tr hg4 (by rw [hs7]; exact jo_g_up (jo_g_up (jo_g_f hf) (by omega)) (by omega)), c ++ V.2.2 ++ (jl_cnd b m (jl_T b m 5) (V.2.1 + 1)).2.2, ?_⟩
      rw [e, hx]
      refine jo_rule_fin hU hR6 h16 (by rw [r0 110 (by omega)]; exact e110) (by rw [r0 111 (by omega)]; exact e111) (by rw [r2, if_pos rfl]) r15 (fun t d => ?_) hx2 (hgC hz) gV gW (by rw [r15]; exact hs7)
      obtain ⟨n1, n2, n3, n4⟩ := nn t d
      exact ⟨by rw [r0 110 (by omega)]; exact n1, by rw [r0 111 (by omega)]; exact n2, by rw [r2, if_neg d]; exact n3, by rw [r0 113 (by omega)]; exact n4⟩
  have hl6 : ∀ {σ4 σ6 : jw_H}, σ4 = jw_up σ3 112 (σ3 103 15) (σ3 103 13) → jo_nq b 0 m V.2.1 (c ++ V.2.2) σ4 (some (.inl 1)) σ6 → 0 ≤ σ6 103 15 ∧ σ6 103 15 < 16 ∧ 0 ≤ σ6 103 13 ∧ σ6 103 13 ≤ 260 := by
    intro σ4 σ6 hs4 hn
    rcases hn with ⟨h0, -⟩ | ⟨h0, -⟩ | ⟨h0, -⟩ | ⟨-, hf, h40, hz, h41, o', hR6⟩
    · exact absurd (jo_ne h0) (by omega)
    · exact absurd (jo_ne h0) (by omega)
    · exact absurd (jo_ne h0) (by omega)
    · have r15 : σ6 103 15 = (L.length : Int) := by
        rw [hf.2 15 (by omega) (by omega) (by omega) (by omega) (by omega) (by omega), hs4]
        exact e15
      obtain ⟨-, -, k240, -, ki, -, -, k13, -, kb, -, -⟩ := hR6
      omega
  refine jw_W_n 1 (i' := 59) (ls' := [some (.inr (.inr 103)), some (.inl x)]) (st' := [.inr (.inr 103)]) rfl ?_
  refine jw_W_gf rfl rfl rfl ?_
  show jw_W (js_S n) _ md_205 60 [some (.inr (.inr 103)), some (.inl x)] [.inr (.inr 112)] σ3 _
  refine jw_W_n 1 (i' := 61) (ls' := [some (.inr (.inr 103)), some (.inl x)]) (st' := [.inr (.inr 103), .inr (.inr 112)]) rfl ?_
  refine jw_W_gf rfl rfl rfl ?_
  show jw_W (js_S n) _ md_205 62 [some (.inr (.inr 103)), some (.inl x)] [.inl (σ3 103 15), .inr (.inr 112)] σ3 _
  refine jw_W_n 1 (i' := 63) (ls' := [some (.inr (.inr 103)), some (.inl x)]) (st' := [.inr (.inr 103), .inl (σ3 103 15), .inr (.inr 112)]) rfl ?_
  refine jw_W_gf rfl rfl rfl ?_
  show jw_W (js_S n) _ md_205 64 [some (.inr (.inr 103)), some (.inl x)] [.inl (σ3 103 13), .inl (σ3 103 15), .inr (.inr 112)] σ3 _
  refine jw_W_is rfl (by omega) rfl (by omega) (by omega) (by omega) ?_
  obtain ⟨σ4, hs4⟩ : ∃ s : jw_H, s = jw_up σ3 112 (σ3 103 15) (σ3 103 13) := ⟨_, rfl⟩
  show jw_W (js_S n) _ _ _ _ _ (jw_up σ3 112 (σ3 103 15) (σ3 103 13)) _
  rw [← hs4]
  have hR4 := jo_rp_112 hR3 hs4
  refine jw_W_n 1 (i' := 66) (ls' := [some (.inr (.inr 103)), some (.inl x)]) (st' := [.inr (.inr 103)]) rfl ?_
  refine jw_W_call (as := [.inr (.inr 103)]) (rest := []) rfl rfl rfl rfl (Nat.le_of_ble_eq_true rfl) (.inr rfl) (jo_nq_or (jo_readsCondition hR4)) (by omega) ?_ rfl
  rintro r1 σ5 (⟨rfl, hn⟩ | ⟨rfl, hn⟩)
  · rename jw_H => σ5
    show jw_W (js_S n) _ md_205 67 [some (.inr (.inr 103)), some (.inl x)] [.inl 0] σ5 _
    refine jw_W_if rfl (by unfold jw_rg; omega) (fun hc1 => ?_) (fun hc1 => ?_)
    · exact absurd hc1 (show ¬ ((0 : Int) ≠ 0) by omega)
    · clear hc1
      refine jw_W_n 1 (i' := 69) (ls' := [some (.inr (.inr 103)), some (.inl x)]) (st' := [.inl 0]) rfl ?_
      refine jw_W_ir rfl ?_
      exact bad hs4 hn
  · rename jw_H => σ6
    have h6b := hl6 hs4 hn
    show jw_W (js_S n) _ md_205 67 [some (.inr (.inr 103)), some (.inl x)] [.inl 1] σ6 _
    refine jw_W_if rfl (by unfold jw_rg; omega) (fun hc2 => ?_) (fun hc2 => ?_)
    · clear hc2
      refine jw_W_n 1 (i' := 71) (ls' := [some (.inr (.inr 103)), some (.inl x)]) (st' := [.inr (.inr 103)]) rfl ?_
      refine jw_W_gf rfl rfl rfl ?_
      show jw_W (js_S n) _ md_205 72 [some (.inr (.inr 103)), some (.inl x)] [.inr (.inr 113)] σ6 _
      refine jw_W_n 1 (i' := 73) (ls' := [some (.inr (.inr 103)), some (.inl x)]) (st' := [.inr (.inr 103), .inr (.inr 113)]) rfl ?_
      refine jw_W_gf rfl rfl rfl ?_
      show jw_W (js_S n) _ md_205 74 [some (.inr (.inr 103)), some (.inl x)] [.inl (σ6 103 15), .inr (.inr 113)] σ6 _
      refine jw_W_n 1 (i' := 75) (ls' := [some (.inr (.inr 103)), some (.inl x)]) (st' := [.inr (.inr 103), .inl (σ6 103 15), .inr (.inr 113)]) rfl ?_
      refine jw_W_gf rfl rfl rfl ?_
      show jw_W (js_S n) _ md_205 76 [some (.inr (.inr 103)), some (.inl x)] [.inl (σ6 103 13), .inl (σ6 103 15), .inr (.inr 113)] σ6 _
      refine jw_W_is rfl (by omega) rfl (by omega) (by omega) (by omega) ?_
      refine jw_W_n 2 (i' := 79) (ls' := [some (.inr (.inr 103)), some (.inl x)]) (st' := [.inr (.inr 103), .inr (.inr 103)]) rfl ?_
      refine jw_W_gf rfl rfl rfl ?_
      show jw_W (js_S n) _ md_205 80 [some (.inr (.inr 103)), some (.inl x)] [.inl (σ6 103 15), .inr (.inr 103)] ((jw_up σ6 113 (σ6 103 15) (σ6 103 13))) _
      refine jw_W_n 2 (i' := 82) (ls' := [some (.inr (.inr 103)), some (.inl x)]) (st' := [.inl (σ6 103 15 + 1), .inr (.inr 103)]) rfl ?_
      refine jw_W_pf (a := σ6 103 15 + 1) rfl (by omega) rfl rfl rfl rfl rfl ?_
      refine jw_W_n 1 (i' := 84) (ls' := [some (.inr (.inr 103)), some (.inl x)]) (st' := [.inl 1]) rfl ?_
      refine jw_W_ir rfl ?_
      exact good hs4 hn rfl
    · exact absurd hc2 (show ¬ ¬ ((1 : Int) ≠ 0) by omega)
theorem jo_readsRule {n : Nat} {σ : jw_H} {b : Int → Int} {m i : Int} {L : List jl_Q} {c : jo_C} (hU : jo_ru b m i L c σ)  : jw_T (js_S n) 8 205 [.inr (.inr 103)] σ (fun r σ' => jo_rz b m i L c σ r σ') := by
  refine jw_T_of (D := 7) (M := mm_205) rfl (Nat.le_of_ble_eq_true rfl) (ls0 := [some (.inr (.inr 103)), none]) rfl ?_ (by rintro _ _ (⟨rfl, -⟩ | ⟨rfl, -⟩) <;> rfl)
  have hU0 := hU
  obtain ⟨ht, em, h240, h8, hi, h13, hcl, hc, h15, hl16, hru⟩ := hU
  have hh := jk_h_rg (b := b) (n := m) (i := i) (by omega) (fun j j0 j1 => (ht.2.2 j j0 (by omega)).2.2)
  have hlt := jk_h_lt (b := b) (m := m) (i := i)
  have bad1 : ¬ (jk_h b m i = 118 ∨ jk_h b m i = 120) → ∀ {υ : jw_H}, υ = jw_up σ 103 10 (-1000 * 1 - σ 103 8) → jo_rz b m i L c σ (some (.inl 0)) υ := by
    intro hn υ hυ
    have e := jl_rl_1 (c := (L.length : Int)) hn
    exact .inl ⟨rfl, by rw [e]; show -1000 * 1 - i ≠ 0; omega, by rw [hυ]; exact jo_g_up (jo_g_rf σ) (by omega), by rw [e, hυ, jw_up_eq, h8]⟩
  have bad4 : (jk_h b m i = 118 ∨ jk_h b m i = 120) → 16 ≤ (L.length : Int) → ∀ {υ : jw_H}, υ = jw_up σ 103 10 (-1000 * 4 - σ 103 8) → jo_rz b m i L c σ (some (.inl 0)) υ := by
    intro hn h16 υ hυ
    have e := jl_rl_2 (c := (L.length : Int)) hn h16
    exact .inl ⟨rfl, by rw [e]; show -1000 * 4 - i ≠ 0; omega, by rw [hυ]; exact jo_g_up (jo_g_rf σ) (by omega), by rw [e, hυ, jw_up_eq, h8]⟩
  have go : ((jk_h b m i = 118 ∨ jk_h b m i = 120) ∧ ¬ (16 ≤ (L.length : Int))) → i < m → ∀ {σ2 : jw_H}, σ2 = jw_up (jw_up (jw_up (jw_up (jw_up σ 110 (σ 103 15) (jk_h b m i)) 103 8 (σ 103 8 + 1)) 111 (σ 103 15) (σ 103 13)) 103 12 0) 103 14 0 → jw_W (js_S n) 7 md_205 50 [some (.inr (.inr 103)), some (.inl (jk_h b m i))] [] σ2 (fun r σ' => jo_rz b m i L c σ r σ') := by
    intro hh2 him σ2 hs2
    have hx := hh2.1
    have h16 := hh2.2
    have hg2 : jo_g σ σ2 := by rw [hs2]; exact jo_g_up (jo_g_up (jo_g_up (jo_g_up (jo_g_up (jo_g_rf σ) (by omega)) (by omega)) (by omega)) (by omega)) (by omega)
    have e15 : σ2 103 15 = (L.length : Int) := by rw [hs2]; exact h15
    have e110 : σ2 110 (L.length : Int) = jk_h b m i := by
      rw [hs2, jw_up_out _ _ _ (by omega), jw_up_out _ _ _ (by omega), jw_up_out _ _ _ (by omega), jw_up_out _ _ _ (by omega), ← h15, jw_up_eq]
    have e111 : σ2 111 (L.length : Int) = (c.length : Int) := by
      rw [hs2, jw_up_out _ _ _ (by omega), jw_up_out _ _ _ (by omega), ← h15, jw_up_eq, h13]
    have nn : ∀ t : Int, t ≠ (L.length : Int) → σ2 110 t = σ 110 t ∧ σ2 111 t = σ 111 t ∧ σ2 112 t = σ 112 t ∧ σ2 113 t = σ 113 t := by
      intro t d
      refine ⟨?_, ?_, by rw [hs2]; rfl, by rw [hs2]; rfl⟩
      · rw [hs2, jw_up_out _ _ _ (by omega), jw_up_out _ _ _ (by omega), jw_up_out _ _ _ (by omega), jw_up_out _ _ _ (by omega), jw_up_ne _ (by omega)]
      · rw [hs2, jw_up_out _ _ _ (by omega), jw_up_out _ _ _ (by omega), jw_up_ne _ (by omega), jw_up_out _ _ _ (by omega), jw_up_out _ _ _ (by omega)]
    have hR2 : jo_rp b 0 m (i + 1) 0 [] c σ2 := ⟨⟨by rw [hs2]; show 0 ≤ σ 103 8 + 1 ∧ σ 103 8 + 1 ≤ 100000; omega, by rw [hs2]; exact ht.2.1, fun j j0 j1 => by rw [hs2] at j1 ⊢; exact ht.2.2 j j0 j1⟩, by rw [hs2]; exact em, h240, by rw [hs2]; show σ 103 8 + 1 = i + 1; omega, by omega, by rw [hs2]; rfl, ⟨rfl, by omega⟩, by rw [hs2]; exact h13, by rw [hs2]; rfl, by show (c.length : Int) + ((0 : Nat) : Int) + 0 ≤ i + 1 ∧ ((0 : Nat) : Int) ≤ i + 1 ∧ (0 : Int) ≤ 0; omega, jo_cr_fr hc (by rw [hs2]; rfl), trivial⟩
    refine jw_W_n 2 (i' := 52) (ls' := [some (.inr (.inr 103)), some (.inl (jk_h b m i))]) (st' := [.inl 120, .inl (jk_h b m i)]) rfl ?_
    refine jw_W_ic rfl (by unfold jw_rg; omega) (by unfold jw_rg; omega) (fun hc1 => ?_) (fun hc1 => ?_)
    · have hc1 : (jk_h b m i) = 120 := hc1
      exact jo_rule_tail hU0 (V := (0, i + 1, [])) (by omega) (by omega) h16 (by unfold jl_Vr; rw [if_neg (by omega)]) rfl (by rw [List.append_nil]; exact hR2) e15 e110 e111 nn (fun w => by omega) (fun _ => rfl) hg2
    · have hc1 : ¬ ((jk_h b m i) = 120) := hc1
      refine jw_W_n 1 (i' := 54) (ls' := [some (.inr (.inr 103)), some (.inl (jk_h b m i))]) (st' := [.inr (.inr 103)]) rfl ?_
      refine jw_W_call (as := [.inr (.inr 103)]) (rest := []) rfl rfl rfl rfl (Nat.le_of_ble_eq_true rfl) (.inr rfl) (jo_readsSum2 hR2 (fun q V e => absurd e (List.cons_ne_nil q V).symm) (k := 6) (by omega)) (by omega) ?_ rfl
      rintro r1 σ3 (⟨rfl, hfa, hz, hv⟩ | ⟨rfl, hfa, hz, hR3⟩)
      · rename jw_H => σa
        show jw_W (js_S n) _ md_205 55 [some (.inr (.inr 103)), some (.inl (jk_h b m i))] [.inl 0] σa _
        refine jw_W_if rfl (by unfold jw_rg; omega) (fun hc2 => ?_) (fun hc2 => ?_)
        · exact absurd hc2 (show ¬ ((0 : Int) ≠ 0) by omega)
        · clear hc2
          refine jw_W_n 1 (i' := 57) (ls' := [some (.inr (.inr 103)), some (.inl (jk_h b m i))]) (st' := [.inl 0]) rfl ?_
          refine jw_W_ir rfl ?_
          obtain ⟨k1, k2⟩ := jl_rl_e (L := L) (x := jk_h b m i) rfl (by omega) h16 (V := jl_S b m 6 (i + 1)) (by unfold jl_Vr; rw [if_pos (by omega)]) hz
          exact .inl ⟨rfl, k1, jo_g_tr hg2 (jo_g_f hfa), by rw [k2]; exact hv⟩
      · rename jw_H => σ3
        show jw_W (js_S n) _ md_205 55 [some (.inr (.inr 103)), some (.inl (jk_h b m i))] [.inl 1] σ3 _
        refine jw_W_if rfl (by unfold jw_rg; omega) (fun hc3 => ?_) (fun hc3 => ?_)
        · clear hc3
          have r0 : ∀ r, r ≠ 103 → r ≠ 108 → r ≠ 109 → σ3 r = σ2 r := hfa.1
          exact jo_rule_tail hU0 (V := jl_S b m 6 (i + 1)) (by omega) (by omega) h16 (by unfold jl_Vr; rw [if_pos (by omega)]) hz hR3 ((hfa.2 15 (by omega) (by omega) (by omega) (by omega) (by omega) (by omega)).trans e15) (by rw [r0 110 (by omega) (by omega) (by omega)]; exact e110) (by rw [r0 111 (by omega) (by omega) (by omega)]; exact e111) (fun t d => by rw [r0 110 (by omega) (by omega) (by omega), r0 111 (by omega) (by omega) (by omega), r0 112 (by omega) (by omega) (by omega), r0 113 (by omega) (by omega) (by omega)]; exact nn t d) (fun _ => jl_gR_S 6 (by omega) hz) (fun w => by omega) (jo_g_tr hg2 (jo_g_f hfa))
        · exact absurd hc3 (show ¬ ¬ ((1 : Int) ≠ 0) by omega)
  refine jw_W_n 1 (i' := 1) (ls' := [some (.inr (.inr 103)), none]) (st' := [.inr (.inr 103)]) rfl ?_
  refine jw_W_call (as := [.inr (.inr 103)]) (rest := []) rfl rfl rfl rfl (Nat.le_of_ble_eq_true rfl) (.inr rfl) (jk_hereR ht) (by omega) ?_ rfl
  rintro r1 σz ⟨rfl, hs⟩
  rw [hs]
  rw [em, h8]
  show jw_W (js_S n) _ md_205 2 [some (.inr (.inr 103)), none] [.inl (jk_h b m i)] σ _
  refine jw_W_n 3 (i' := 5) (ls' := [some (.inr (.inr 103)), some (.inl (jk_h b m i))]) (st' := [.inl 118, .inl (jk_h b m i)]) rfl ?_
  refine jw_W_ic rfl (by unfold jw_rg; omega) (by unfold jw_rg; omega) (fun hc1 => ?_) (fun hc1 => ?_)
  · have hc1 : (jk_h b m i) = 118 := hc1
    refine jw_W_n 1 (i' := 16) (ls' := [some (.inr (.inr 103)), some (.inl (jk_h b m i))]) (st' := [.inr (.inr 103)]) rfl ?_
    refine jw_W_gf rfl rfl rfl ?_
    show jw_W (js_S n) _ md_205 17 [some (.inr (.inr 103)), some (.inl (jk_h b m i))] [.inl (σ 103 15)] σ _
    refine jw_W_n 1 (i' := 18) (ls' := [some (.inr (.inr 103)), some (.inl (jk_h b m i))]) (st' := [.inl 16, .inl (σ 103 15)]) rfl ?_
    refine jw_W_ic rfl (by unfold jw_rg; omega) (by unfold jw_rg; omega) (fun hc2 => ?_) (fun hc2 => ?_)
    · have hc2 : (σ 103 15) ≠ 16 := hc2
      refine jw_W_n 1 (i' := 26) (ls' := [some (.inr (.inr 103)), some (.inl (jk_h b m i))]) (st' := [.inr (.inr 103)]) rfl ?_
      refine jw_W_gf rfl rfl rfl ?_
      show jw_W (js_S n) _ md_205 27 [some (.inr (.inr 103)), some (.inl (jk_h b m i))] [.inr (.inr 110)] σ _
      refine jw_W_n 1 (i' := 28) (ls' := [some (.inr (.inr 103)), some (.inl (jk_h b m i))]) (st' := [.inr (.inr 103), .inr (.inr 110)]) rfl ?_
      refine jw_W_gf rfl rfl rfl ?_
      show jw_W (js_S n) _ md_205 29 [some (.inr (.inr 103)), some (.inl (jk_h b m i))] [.inl (σ 103 15), .inr (.inr 110)] σ _
      refine jw_W_n 1 (i' := 30) (ls' := [some (.inr (.inr 103)), some (.inl (jk_h b m i))]) (st' := [.inl (jk_h b m i), .inl (σ 103 15), .inr (.inr 110)]) rfl ?_
      refine jw_W_is rfl (by omega) rfl (by omega) (by omega) (by omega) ?_
      refine jw_W_n 2 (i' := 33) (ls' := [some (.inr (.inr 103)), some (.inl (jk_h b m i))]) (st' := [.inr (.inr 103), .inr (.inr 103)]) rfl ?_
      refine jw_W_gf rfl rfl rfl ?_
      show jw_W (js_S n) _ md_205 34 [some (.inr (.inr 103)), some (.inl (jk_h b m i))] [.inl (σ 103 8), .inr (.inr 103)] ((jw_up σ 110 (σ 103 15) (jk_h b m i))) _
      refine jw_W_n 2 (i' := 36) (ls' := [some (.inr (.inr 103)), some (.inl (jk_h b m i))]) (st' := [.inl (σ 103 8 + 1), .inr (.inr 103)]) rfl ?_
      refine jw_W_pf (a := σ 103 8 + 1) rfl (by omega) rfl rfl rfl rfl rfl ?_
      refine jw_W_n 1 (i' := 38) (ls' := [some (.inr (.inr 103)), some (.inl (jk_h b m i))]) (st' := [.inr (.inr 103)]) rfl ?_
      refine jw_W_gf rfl rfl rfl ?_
      show jw_W (js_S n) _ md_205 39 [some (.inr (.inr 103)), some (.inl (jk_h b m i))] [.inr (.inr 111)] ((jw_up (jw_up σ 110 (σ 103 15) (jk_h b m i)) 103 8 (σ 103 8 + 1))) _
      refine jw_W_n 1 (i' := 40) (ls' := [some (.inr (.inr 103)), some (.inl (jk_h b m i))]) (st' := [.inr (.inr 103), .inr (.inr 111)]) rfl ?_
      refine jw_W_gf rfl rfl rfl ?_
      show jw_W (js_S n) _ md_205 41 [some (.inr (.inr 103)), some (.inl (jk_h b m i))] [.inl (σ 103 15), .inr (.inr 111)] ((jw_up (jw_up σ 110 (σ 103 15) (jk_h b m i)) 103 8 (σ 103 8 + 1))) _
      refine jw_W_n 1 (i' := 42) (ls' := [some (.inr (.inr 103)), some (.inl (jk_h b m i))]) (st' := [.inr (.inr 103), .inl (σ 103 15), .inr (.inr 111)]) rfl ?_
      refine jw_W_gf rfl rfl rfl ?_
      show jw_W (js_S n) _ md_205 43 [some (.inr (.inr 103)), some (.inl (jk_h b m i))] [.inl (σ 103 13), .inl (σ 103 15), .inr (.inr 111)] ((jw_up (jw_up σ 110 (σ 103 15) (jk_h b m i)) 103 8 (σ 103 8 + 1))) _
      refine jw_W_is rfl (by omega) rfl (by omega) (by omega) (by omega) ?_
      refine jw_W_n 2 (i' := 46) (ls' := [some (.inr (.inr 103)), some (.inl (jk_h b m i))]) (st' := [.inl 0, .inr (.inr 103)]) rfl ?_
      refine jw_W_pf (a := 0) rfl (by omega) rfl rfl rfl rfl rfl ?_
      refine jw_W_n 2 (i' := 49) (ls' := [some (.inr (.inr 103)), some (.inl (jk_h b m i))]) (st' := [.inl 0, .inr (.inr 103)]) rfl ?_
      refine jw_W_pf (a := 0) rfl (by omega) rfl rfl rfl rfl rfl ?_
      exact go (by omega) (hlt (by omega)) rfl
    · have hc2 : (σ 103 15) = 16 := Classical.not_not.mp hc2
      refine jw_W_n 3 (i' := 22) (ls' := [some (.inr (.inr 103)), some (.inl (jk_h b m i))]) (st' := [.inr (.inr 103), .inl 4, .inr (.inr 103)]) rfl ?_
      refine jw_W_gf rfl rfl rfl ?_
      show jw_W (js_S n) _ md_205 23 [some (.inr (.inr 103)), some (.inl (jk_h b m i))] [.inl (σ 103 8), .inl 4, .inr (.inr 103)] σ _
      refine jw_W_call (as := [.inr (.inr 103), .inl 4, .inl (σ 103 8)]) (rest := []) rfl rfl rfl rfl (Nat.le_of_ble_eq_true rfl) (.inr rfl) (jk_wrongAt (by omega) (by omega)) (by omega) ?_ rfl
      rintro r1 σz ⟨rfl, hs⟩
      rename jw_H => σw
      show jw_W (js_S n) _ md_205 24 [some (.inr (.inr 103)), some (.inl (jk_h b m i))] [.inl 0] σw _
      refine jw_W_ir rfl ?_
      first | exact bad1 (by omega) hs | exact bad4 (by omega) (by omega) hs
  · have hc1 : ¬ ((jk_h b m i) = 118) := hc1
    refine jw_W_n 2 (i' := 8) (ls' := [some (.inr (.inr 103)), some (.inl (jk_h b m i))]) (st' := [.inl 120, .inl (jk_h b m i)]) rfl ?_
    refine jw_W_ic rfl (by unfold jw_rg; omega) (by unfold jw_rg; omega) (fun hc3 => ?_) (fun hc3 => ?_)
    · have hc3 : (jk_h b m i) = 120 := hc3
      refine jw_W_n 1 (i' := 16) (ls' := [some (.inr (.inr 103)), some (.inl (jk_h b m i))]) (st' := [.inr (.inr 103)]) rfl ?_
      refine jw_W_gf rfl rfl rfl ?_
      show jw_W (js_S n) _ md_205 17 [some (.inr (.inr 103)), some (.inl (jk_h b m i))] [.inl (σ 103 15)] σ _
      refine jw_W_n 1 (i' := 18) (ls' := [some (.inr (.inr 103)), some (.inl (jk_h b m i))]) (st' := [.inl 16, .inl (σ 103 15)]) rfl ?_
      refine jw_W_ic rfl (by unfold jw_rg; omega) (by unfold jw_rg; omega) (fun hc4 => ?_) (fun hc4 => ?_)
      · have hc4 : (σ 103 15) ≠ 16 := hc4
        refine jw_W_n 1 (i' := 26) (ls' := [some (.inr (.inr 103)), some (.inl (jk_h b m i))]) (st' := [.inr (.inr 103)]) rfl ?_
        refine jw_W_gf rfl rfl rfl ?_
        show jw_W (js_S n) _ md_205 27 [some (.inr (.inr 103)), some (.inl (jk_h b m i))] [.inr (.inr 110)] σ _
        refine jw_W_n 1 (i' := 28) (ls' := [some (.inr (.inr 103)), some (.inl (jk_h b m i))]) (st' := [.inr (.inr 103), .inr (.inr 110)]) rfl ?_
        refine jw_W_gf rfl rfl rfl ?_
        show jw_W (js_S n) _ md_205 29 [some (.inr (.inr 103)), some (.inl (jk_h b m i))] [.inl (σ 103 15), .inr (.inr 110)] σ _
        refine jw_W_n 1 (i' := 30) (ls' := [some (.inr (.inr 103)), some (.inl (jk_h b m i))]) (st' := [.inl (jk_h b m i), .inl (σ 103 15), .inr (.inr 110)]) rfl ?_
        refine jw_W_is rfl (by omega) rfl (by omega) (by omega) (by omega) ?_
        refine jw_W_n 2 (i' := 33) (ls' := [some (.inr (.inr 103)), some (.inl (jk_h b m i))]) (st' := [.inr (.inr 103), .inr (.inr 103)]) rfl ?_
        refine jw_W_gf rfl rfl rfl ?_
        show jw_W (js_S n) _ md_205 34 [some (.inr (.inr 103)), some (.inl (jk_h b m i))] [.inl (σ 103 8), .inr (.inr 103)] ((jw_up σ 110 (σ 103 15) (jk_h b m i))) _
        refine jw_W_n 2 (i' := 36) (ls' := [some (.inr (.inr 103)), some (.inl (jk_h b m i))]) (st' := [.inl (σ 103 8 + 1), .inr (.inr 103)]) rfl ?_
        refine jw_W_pf (a := σ 103 8 + 1) rfl (by omega) rfl rfl rfl rfl rfl ?_
        refine jw_W_n 1 (i' := 38) (ls' := [some (.inr (.inr 103)), some (.inl (jk_h b m i))]) (st' := [.inr (.inr 103)]) rfl ?_
        refine jw_W_gf rfl rfl rfl ?_
        show jw_W (js_S n) _ md_205 39 [some (.inr (.inr 103)), some (.inl (jk_h b m i))] [.inr (.inr 111)] ((jw_up (jw_up σ 110 (σ 103 15) (jk_h b m i)) 103 8 (σ 103 8 + 1))) _
        refine jw_W_n 1 (i' := 40) (ls' := [some (.inr (.inr 103)), some (.inl (jk_h b m i))]) (st' := [.inr (.inr 103), .inr (.inr 111)]) rfl ?_
        refine jw_W_gf rfl rfl rfl ?_
        show jw_W (js_S n) _ md_205 41 [some (.inr (.inr 103)), some (.inl (jk_h b m i))] [.inl (σ 103 15), .inr (.inr 111)] ((jw_up (jw_up σ 110 (σ 103 15) (jk_h b m i)) 103 8 (σ 103 8 + 1))) _
        refine jw_W_n 1 (i' := 42) (ls' := [some (.inr (.inr 103)), some (.inl (jk_h b m i))]) (st' := [.inr (.inr 103), .inl (σ 103 15), .inr (.inr 111)]) rfl ?_
        refine jw_W_gf rfl rfl rfl ?_
        show jw_W (js_S n) _ md_205 43 [some (.inr (.inr 103)), some (.inl (jk_h b m i))] [.inl (σ 103 13), .inl (σ 103 15), .inr (.inr 111)] ((jw_up (jw_up σ 110 (σ 103 15) (jk_h b m i)) 103 8 (σ 103 8 + 1))) _
        refine jw_W_is rfl (by omega) rfl (by omega) (by omega) (by omega) ?_
        refine jw_W_n 2 (i' := 46) (ls' := [some (.inr (.inr 103)), some (.inl (jk_h b m i))]) (st' := [.inl 0, .inr (.inr 103)]) rfl ?_
        refine jw_W_pf (a := 0) rfl (by omega) rfl rfl rfl rfl rfl ?_
        refine jw_W_n 2 (i' := 49) (ls' := [some (.inr (.inr 103)), some (.inl (jk_h b m i))]) (st' := [.inl 0, .inr (.inr 103)]) rfl ?_
        refine jw_W_pf (a := 0) rfl (by omega) rfl rfl rfl rfl rfl ?_
        exact go (by omega) (hlt (by omega)) rfl
      · have hc4 : (σ 103 15) = 16 := Classical.not_not.mp hc4
        refine jw_W_n 3 (i' := 22) (ls' := [some (.inr (.inr 103)), some (.inl (jk_h b m i))]) (st' := [.inr (.inr 103), .inl 4, .inr (.inr 103)]) rfl ?_
        refine jw_W_gf rfl rfl rfl ?_
        show jw_W (js_S n) _ md_205 23 [some (.inr (.inr 103)), some (.inl (jk_h b m i))] [.inl (σ 103 8), .inl 4, .inr (.inr 103)] σ _
        refine jw_W_call (as := [.inr (.inr 103), .inl 4, .inl (σ 103 8)]) (rest := []) rfl rfl rfl rfl (Nat.le_of_ble_eq_true rfl) (.inr rfl) (jk_wrongAt (by omega) (by omega)) (by omega) ?_ rfl
        rintro r1 σz ⟨rfl, hs⟩
        rename jw_H => σw
        show jw_W (js_S n) _ md_205 24 [some (.inr (.inr 103)), some (.inl (jk_h b m i))] [.inl 0] σw _
        refine jw_W_ir rfl ?_
        first | exact bad1 (by omega) hs | exact bad4 (by omega) (by omega) hs
    · have hc3 : ¬ ((jk_h b m i) = 120) := hc3
      refine jw_W_n 3 (i' := 12) (ls' := [some (.inr (.inr 103)), some (.inl (jk_h b m i))]) (st' := [.inr (.inr 103), .inl 1, .inr (.inr 103)]) rfl ?_
      refine jw_W_gf rfl rfl rfl ?_
      show jw_W (js_S n) _ md_205 13 [some (.inr (.inr 103)), some (.inl (jk_h b m i))] [.inl (σ 103 8), .inl 1, .inr (.inr 103)] σ _
      refine jw_W_call (as := [.inr (.inr 103), .inl 1, .inl (σ 103 8)]) (rest := []) rfl rfl rfl rfl (Nat.le_of_ble_eq_true rfl) (.inr rfl) (jk_wrongAt (by omega) (by omega)) (by omega) ?_ rfl
      rintro r1 σz ⟨rfl, hs⟩
      rename jw_H => σw
      show jw_W (js_S n) _ md_205 14 [some (.inr (.inr 103)), some (.inl (jk_h b m i))] [.inl 0] σw _
      refine jw_W_ir rfl ?_
      first | exact bad1 (by omega) hs | exact bad4 (by omega) (by omega) hs

/-! ===== the start, the end ===== -/
theorem jw_run_mono {ft : List (List FieldType)} {P : List xM} {cd : List xI} {c1 c2 : Nat → List Value → xH → xR} (hc : ∀ k vs h r, c1 k vs h = some r → c2 k vs h = some r) : ∀ (f : Nat) {f' i : Nat} {ls : xL} {st : List Value} {h : xH} {r : Option Value × xH}, f ≤ f' → xrun ft P c1 cd f i ls st h = some r → xrun ft P c2 cd f' i ls st h = some r
  | 0, _, _, _, _, _, _, _, hr => by cases hr
  | f + 1, f', i, ls, st, h, r, hf, hr => by
    obtain ⟨g, rfl⟩ : ∃ g, f' = g + 1 := ⟨f' - 1, by omega⟩
    have ih := fun {i : Nat} {ls : xL} {st : List Value} {h : xH} => jw_run_mono (ft := ft) (P := P) (cd := cd) hc f (f' := g) (i := i) (ls := ls) (st := st) (h := h) (r := r) (by omega)
    unfold xrun at hr ⊢
    cases e0 : cd[i]? with
    | none =>
      simp only [e0] at hr
      try cases hr
    | some q =>
      simp only [e0] at hr ⊢
      cases e1 : xps i q.2.2.2.1 q.2.2.2.2 ls st q.2.1 with
      | some m =>
        simp only [e1] at hr ⊢
        exact ih hr
      | none =>
        simp only [e1] at hr ⊢
        cases e2 : xhs ft q.2.2.2.1 q.2.2.2.2 st h q.2.1 with
        | some m =>
          simp only [e2] at hr ⊢
          exact ih hr
        | none =>
          simp only [e2] at hr ⊢
          cases e3 : xisc q.2.1 with
          | false =>
            simp only [e3] at hr ⊢
            exact hr
          | true =>
            simp only [e3] at hr ⊢
            cases e4 : q.2.2.2.2 with
            | nil =>
              simp only [e4] at hr ⊢
              cases e5 : xca P q.2.2.2.1 st h with
              | none =>
                simp only [e5] at hr
                try cases hr
              | some c =>
                simp only [e5] at hr ⊢
                cases e6 : c1 q.2.2.2.1 c.1 h with
                | none =>
                  simp only [e6] at hr
                  try cases hr
                | some r1 =>
                  simp only [e6] at hr
                  simp only [hc _ _ _ _ e6]
                  exact ih hr
            | cons t ts =>
              simp only [e4] at hr ⊢
              cases e5 : xbt q.2.2.2.1 st h with
              | none =>
                simp only [e5] at hr
                try cases hr
              | some m =>
                simp only [e5] at hr ⊢
                exact ih hr
theorem jw_ex_mono {ft : List (List FieldType)} {P : List xM} {F F' : Nat} (hF : F ≤ F') : ∀ (d k : Nat) (vs : List Value) (h : xH) (r : Option Value × xH), xex ft P F d k vs h = some r → xex ft P F' d k vs h = some r
  | 0, _, _, _, _, hr => by cases hr
  | d + 1, k, vs, h, r, hr => by
    unfold xex at hr ⊢
    cases e : P[k]? with
    | none =>
      simp only [e] at hr
      try cases hr
    | some M =>
      simp only [e] at hr ⊢
      by_cases hl : (xes vs).length ≤ M.maxL
      · rw [if_pos hl] at hr ⊢
        cases e2 : xrun ft P (xex ft P F d) M.cd F 0 (xent M.maxL vs) [] h with
        | none =>
          simp only [e2] at hr
          try cases hr
        | some r2 =>
          simp only [e2] at hr
          simp only [jw_run_mono (fun k vs h r => jw_ex_mono hF d k vs h r) F hF e2]
          exact hr
      · rw [if_neg hl] at hr
        cases hr
/-- from the entry to the loop, with room for more steps -/
theorem con_any (scr : List Int32) : ∃ h1, gH ah1.flatten h1 ∧ h1[0]? = some (.inr (.inl (0, scr))) ∧ ∀ F, 200000 ≤ F → ∀ g, xrun xft xP (xex xft xP F 100) md_law (10 + g) 0 (xent 4 [.ref 0]) [] (xh0 scr) = xrun xft xP (xex xft xP F 100) md_law g 10 [some (.ref 0), some (.ref 13), some (.ref 103), some (.int 0)] [] h1 := by
  obtain ⟨h1, g1, g0, run⟩ := con_ok scr
  refine ⟨h1, g1, g0, fun F hF g => ?_⟩
  obtain ⟨ls', st', h', k1, k2, k3, k5, k4⟩ := apre_ok (call := xex xft xP F 100) (fun k vs h r h' q1 q2 => xex_low 100 k vs h r h' q1 q2) (fun k as ah ar ah' vs h q1 q2 q3 => by
    obtain ⟨r, h', e, w⟩ := aex_ok 100 k as ah ar ah' vs h q1 q2 q3
    exact ⟨r, h', jw_ex_mono hF 100 k vs h _ e, w⟩) _ _ _ _ _ _ _ _ _ con_run (xent 4 [.ref 0]) [] (xh0 scr) (aent_ok ⟨rfl, trivial⟩) trivial (ah00_ok scr)
  have e1 : ls' = [some (.ref 0), some (.ref 13), some (.ref 103), some (.int 0)] := gL_ex (vs := [.ref 0, .ref 13, .ref 103, .int 0]) k1
  have e2 : st' = [] := by
    cases st' with
    | nil => rfl
    | cons v st => exact k2.elim
  subst e1
  subst e2
  have hl : 13 ≤ (xh0 scr).length := (show 13 ≤ 13 from Nat.le_refl _)
  have h0' : h'[0]? = some (.inr (.inl (0, scr))) := ((k5 hl).2 0 (by decide)).trans rfl
  have eh : h' = h1 := by
    have a := js_start k3 h0'
    have b := js_start g1 g0
    apply List.ext_getElem?
    intro o
    by_cases ho : o < (js_S scr.length).length
    · rw [a.2 o _ (List.getElem?_eq_getElem ho), b.2 o _ (List.getElem?_eq_getElem ho)]
    · rw [List.getElem?_eq_none (by rw [a.1]; omega), List.getElem?_eq_none (by rw [b.1]; omega)]
  rw [← eh]
  exact k4 g
/-- how much room a store takes, by its shape -/
def jw_sz : List jw_S → Nat
  | [] => 0
  | .inl (_, ks) :: S => ks.length + jw_sz S
  | .inr (_, n) :: S => n + jw_sz S
theorem jv_f_len : ∀ (ks : List Nat) (j : Nat) (g : Int → Int), (jw_f ks j g).length = ks.length
  | [], _, _ => rfl
  | k :: ks, j, g => congrArg (· + 1) (jv_f_len ks (j + 1) g)
theorem jw_c_sz (s : jw_S) (S : List jw_S) (g : Int → Int) : xcz (jw_c s g) + jw_sz S = jw_sz (s :: S) := by
  match s with
  | .inl (c, ks) =>
    show (jw_f ks 0 g).length + _ = ks.length + _
    rw [jv_f_len]
  | .inr (0, n) =>
    show ((List.range n).map _).length + _ = n + _
    rw [List.length_map, List.length_range]
  | .inr (1, n) =>
    show ((List.range n).map _).length + _ = n + _
    rw [List.length_map, List.length_range]
  | .inr (2, n) =>
    show ((List.range n).map _).length + _ = n + _
    rw [List.length_map, List.length_range]
  | .inr (3, n) =>
    show ((List.range n).map _).length + _ = n + _
    rw [List.length_map, List.length_range]
  | .inr (b + 4, n) =>
    show ((List.range n).map _).length + _ = n + _
    rw [List.length_map, List.length_range]
theorem jw_sz_ok : ∀ (S : List jw_S) (h : xH) (g : Nat → Int → Int), h.length = S.length → (∀ (o : Nat) (s : jw_S), S[o]? = some s → h[o]? = some (jw_c s (g o))) → xsz h = jw_sz S
  | [], [], _, _, _ => rfl
  | [], _ :: _, _, h, _ => by cases h
  | _ :: _, [], _, h, _ => by cases h
  | s :: S, c :: h, g, hl, H => by
    have h0 : c = jw_c s (g 0) := Option.some.inj (H 0 s rfl)
    have ih := jw_sz_ok S h (fun o => g (o + 1)) (Nat.succ.inj hl) (fun o s' hs => H (o + 1) s' hs)
    show xcz c + xsz h = _
    rw [h0, ih, jw_c_sz]
/-! the store at the loop's start -/
abbrev js_e : jw_H := js_0 []
theorem js_0_e (scr : List Int32) (c : Nat) : js_0 scr (c + 1) = js_e (c + 1) := rfl
abbrev jv_C : List (ge_R × Int) := [((0, 0, 0, 1), 1), ((9, 0, 0, 1), 2)]
theorem jv_e_z (c : Nat) (h : js_T[c]? = some []) (j : Int) : js_e (c + 1) j = 0 := by
  show js_t c j = 0
  unfold js_t
  rw [h]
  simp
theorem jv_e_v : (js_e 103 3 = 1 ∧ js_e 103 4 = 0 ∧ js_e 103 5 = 0 ∧ js_e 103 7 = 0 ∧ js_e 103 16 = 0) ∧ (js_e 103 56 = 2 ∧ js_e 103 57 = 3 ∧ js_e 103 58 = 3 ∧ js_e 103 59 = 1 ∧ js_e 103 75 = 0) ∧ (js_e 13 1 = 0 ∧ js_e 13 2 = 15 ∧ js_e 13 3 = 21 ∧ js_e 13 5 = 0) ∧ (js_e 106 0 = 9 ∧ js_e 106 1 = 9 ∧ js_e 106 2 = 9) ∧ (js_e 15 0 = 1 ∧ js_e 15 1 = 0 ∧ js_e 15 2 = 0) ∧ (js_e 20 0 = 9 ∧ js_e 20 1 = 9 ∧ js_e 20 2 = 9) ∧ (js_e 57 0 = 2 ∧ js_e 57 6 = 15 ∧ js_e 57 9 = 0 ∧ js_e 58 0 = 2) ∧ (js_e 42 0 = 0 ∧ js_e 42 5 = 0 ∧ js_e 42 8 = 0 ∧ js_e 42 9 = 0) := by decide +kernel
theorem jv_e_two {P : Int → Prop} (h0 : P 0) (h1 : P 1) : ∀ a : Int, 0 ≤ a → a < 2 → P a := fun a a0 a1 => by
  rcases (show a = 0 ∨ a = 1 by omega) with rfl | rfl
  · exact h0
  · exact h1
theorem jv_e_three {P : Int → Prop} (h0 : P 0) (h1 : P 1) (h2 : P 2) : ∀ a : Int, 0 ≤ a → a < 3 → P a := fun a a0 a1 => by
  rcases (show a = 0 ∨ a = 1 ∨ a = 2 by omega) with rfl | rfl | rfl
  · exact h0
  · exact h1
  · exact h2
theorem jv_e_Pb : jm_Pb js_e := by
  obtain ⟨⟨v3, v4, v5, -, -⟩, -, -, ⟨b0, b1, b2⟩, -⟩ := jv_e_v
  unfold jm_Pb
  rw [v3, v4, v5]
  refine ⟨by omega, by omega, by omega, fun k k0 k1 => by omega, ?_, fun w w0 w1 => by omega⟩
  exact jv_e_three (by rw [b0]; omega) (by rw [b1]; omega) (by rw [b2]; omega)
theorem jv_e_bA : jm_bA js_e = jm_be (js_e 103 5).toNat (js_e 103 3).toNat (jm_Bs js_e) := by
  have h : ∀ k : Nat, k = 0 → jm_bk js_e (-1) (-1) k = jm_be (js_e 103 5).toNat (js_e 103 3).toNat (jm_Bs js_e) := by
    rintro _ rfl
    rfl
  exact h _ (by decide +kernel)
theorem jv_e_b : jm_bA js_e = [(0, (-1, 0, 0, 0)), (1, (1, 0, 0, 9))] := by decide +kernel
theorem jv_e_R : jm_R js_e = [(-1, 0, 0, 0), (1, 0, 0, 9), (0, 0, 1, 0), (0, 0, -1, 0), (0, 1, 0, 0), (0, -1, 0, 0)] := by decide +kernel
theorem jv_e_F : jm_F js_e = [] := by decide +kernel
theorem jv_e_nbt (p q : ge_R) : ¬ ge_bt (jm_F js_e) p q := by
  rw [jv_e_F]
  rintro ⟨-, f, hf, -⟩
  cases hf
theorem jv_e_Ef (p : ge_R) : ¬ jm_Ef js_e p := by
  rintro ⟨q, -, h⟩
  exact jv_e_nbt p q h
theorem jv_e_Wk (p : ge_R) : jm_Wk js_e p := .inl jv_e_v.1.2.1
theorem jv_e_at {i : Nat} {x : ge_R × Int} (h : jv_C[i]? = some x) : (i = 0 ∧ x = ((0, 0, 0, 1), 1)) ∨ (i = 1 ∧ x = ((9, 0, 0, 1), 2)) := by
  match i, h with
  | 0, h =>
    cases h
    exact .inl ⟨rfl, rfl⟩
  | 1, h =>
    cases h
    exact .inr ⟨rfl, rfl⟩
  | i + 2, h => simp [jv_C] at h
theorem jv_e_cor : jm_cor js_e jv_C := by
  refine ⟨jv_e_v.2.1.1, fun i x hx => ?_⟩
  rcases jv_e_at hx with ⟨rfl, rfl⟩ | ⟨rfl, rfl⟩
  · decide +kernel
  · decide +kernel
theorem jv_e_kn : jm_kn js_e jv_C := by
  refine ⟨jv_e_cor, ?_, by decide +kernel⟩
  have h := jm_box_Bd jv_e_Pb
  rw [← jv_e_bA, show jm_b0 js_e (2 ^ (js_e 103 3).toNat) = jv_C by decide +kernel] at h
  exact h
theorem jv_e_mem {b : Nat} {r : ge_R} (h : (b, r) ∈ jm_bA js_e) : (b = 0 ∧ r = (-1, 0, 0, 0)) ∨ (b = 1 ∧ r = (1, 0, 0, 9)) := by
  rw [jv_e_b] at h
  rcases List.mem_cons.mp h with e | h
  · cases e
    exact .inl ⟨rfl, rfl⟩
  · cases List.mem_singleton.mp h
    exact .inr ⟨rfl, rfl⟩
theorem jv_e_Ns : jm_Ns js_e := by
  have h : ∀ v : Fin 60, -3 ≤ js_e 131 ((v.val : Nat) : Int) ∧ js_e 131 ((v.val : Nat) : Int) ≤ 3 := by decide +kernel
  intro j j0 j1
  obtain ⟨k, rfl⟩ : ∃ k : Nat, j = k := ⟨j.toNat, by omega⟩
  exact h ⟨k, by omega⟩
theorem jv_e_kw : jm_kw js_e jv_C := by
  refine ⟨jv_e_Pb, jv_e_kn, fun b r h => ?_, fun b r t h1 h2 => ?_, jv_e_Ns, trivial⟩
  · rcases jv_e_mem h with ⟨-, rfl⟩ | ⟨-, rfl⟩
    · exact ⟨fun _ => rfl, fun _ => rfl⟩
    · exact ⟨fun _ => rfl, fun _ => rfl⟩
  · rcases jv_e_mem h1 with ⟨e1, rfl⟩ | ⟨e1, rfl⟩
    · rcases jv_e_mem h2 with ⟨e2, rfl⟩ | ⟨e2, rfl⟩
      · rfl
      · omega
    · rcases jv_e_mem h2 with ⟨e2, rfl⟩ | ⟨e2, rfl⟩
      · omega
      · rfl
theorem jv_e_bit {s : Nat} {a : Nat} (h : s < 4) (ha : 2 ≤ a) : ¬ jb_in (s : Int) a := by
  show ¬ ((s : Int).toNat.testBit a = true)
  rw [Int.toNat_natCast, Nat.testBit_lt_two_pow (Nat.lt_of_lt_of_le (show s < 2 ^ 2 from h) (Nat.pow_le_pow_right (by omega) ha))]
  exact Bool.false_ne_true
theorem jv_e_gd {f : Int} {P : ge_R → Prop} (hf : js_e 103 f = 3) (hP : ∀ p, P p) : jm_gd js_e f jv_C jv_C.length P := by
  unfold jm_gd
  rw [hf]
  refine ⟨by omega, fun a a0 => ?_⟩
  by_cases h : a < 2
  · have k : ∀ a : Int, 0 ≤ a → a < 2 → (jb_in 3 a.toNat ∧ a < ((jv_C.length : Nat) : Int) ∧ ∃ x, jv_C[a.toNat]? = some x) := jv_e_two ⟨by decide, by decide, ⟨_, rfl⟩⟩ ⟨by decide, by decide, ⟨_, rfl⟩⟩
    obtain ⟨k1, k2, x, k3⟩ := k a a0 h
    exact ⟨fun _ => ⟨k2, x, k3, hP _⟩, fun _ => k1⟩
  · refine ⟨fun w => absurd w (jv_e_bit (s := 3) (by omega) (by omega)), fun w => ?_⟩
    have : a < 2 := w.1
    omega
theorem jv_e_el {o : Nat} {P : ge_R → ge_R → Prop} (h0 : js_e o 0 = 2) (h1 : js_e o 1 = 1) (hP : P (0, 0, 0, 1) (9, 0, 0, 1)) (hP2 : P (9, 0, 0, 1) (0, 0, 0, 1)) : jm_el js_e o jv_C P jv_C.length (jv_C.length + 1) := by
  intro a c a0 a1 c0
  have a2 : a < 2 := a1
  unfold jm_nx
  constructor
  · intro hb
    have hc : c < 2 := by
      refine Classical.not_not.mp (fun hc => ?_)
      rcases (show a = 0 ∨ a = 1 by omega) with rfl | rfl
      · rw [h0] at hb
        exact jv_e_bit (s := 2) (by omega) (by omega) hb
      · rw [h1] at hb
        exact jv_e_bit (s := 1) (by omega) (by omega) hb
    rcases (show a = 0 ∨ a = 1 by omega) with rfl | rfl
    · rw [h0] at hb
      rcases (show c = 0 ∨ c = 1 by omega) with rfl | rfl
      · exact absurd hb (by decide)
      · exact ⟨.inl ⟨by decide, .inl (by decide)⟩, _, _, rfl, rfl, hP⟩
    · rw [h1] at hb
      rcases (show c = 0 ∨ c = 1 by omega) with rfl | rfl
      · exact ⟨.inr ⟨by decide, .inl (by decide)⟩, _, _, rfl, rfl, hP2⟩
      · exact absurd hb (by decide)
  · rintro ⟨hd, x, y, hx, hy, -⟩
    have hne : a ≠ c := by
      unfold jm_dn at hd
      omega
    rcases jv_e_at hy with ⟨hc, -⟩ | ⟨hc, -⟩
    · obtain rfl : c = 0 := by omega
      obtain rfl : a = 1 := by omega
      rw [h1]
      decide
    · obtain rfl : c = 1 := by omega
      obtain rfl : a = 0 := by omega
      rw [h0]
      decide
theorem jv_e_ed {x y : ge_R} (h : x.2 = (0, 0, 1) ∧ y.2 = (0, 0, 1)) : ge_ed (jm_R js_e) x y := by
  obtain ⟨x1, x2⟩ := x
  obtain ⟨y1, y2⟩ := y
  obtain ⟨rfl, rfl⟩ := h
  rw [jv_e_R]
  refine ⟨(0, 0, 1, 0), by simp, (0, 1, 0, 0), by simp, ?_, ?_, ?_, ?_, fun h => absurd h.1 (by decide)⟩
  · simp [ge_s]
  · simp [ge_s]
  · simp [ge_s]
  · simp [ge_s]
theorem jv_e_mk : ∀ a : Int, 0 ≤ a → a < 2 → (0 ≤ js_e 137 a ∧ js_e 137 a ≤ 1048575) ∧ (0 ≤ js_e 138 a ∧ js_e 138 a ≤ 1048575) := jv_e_two (by decide +kernel) (by decide +kernel)
theorem jv_e_KN : jm_KN js_e jv_C := by
  obtain ⟨-, ⟨v56, v57, v58, v59, -⟩, -⟩ := jv_e_v
  have l0 : ∀ a, 0 ≤ a → a < 2 → jm_lv js_e 0 a := fun a a0 a1 => ⟨a0, by rw [v56]; exact a1⟩
  have l1 : ∀ a, ¬ jm_lv js_e 1 a := by
    rintro a ⟨-, c, -, h⟩
    exact jv_e_nbt _ _ h
  refine ⟨jv_e_kw, ⟨fun a a0 a1 => (jv_e_mk a a0 a1).1, fun a a0 a1 => (jv_e_mk a a0 a1).2⟩, jv_e_gd v57 jv_e_Ef, jv_e_gd v58 jv_e_Wk, jv_e_el (by decide +kernel) (by decide +kernel) (jv_e_ed ⟨rfl, rfl⟩) (jv_e_ed ⟨rfl, rfl⟩), jv_e_el (by decide +kernel) (by decide +kernel) ⟨jv_e_ed ⟨rfl, rfl⟩, jv_e_Ef _⟩ ⟨jv_e_ed ⟨rfl, rfl⟩, jv_e_Ef _⟩, 1, v59, fun s hs => ⟨0, ?_⟩, l1, fun a a0 a1 => ⟨0, by omega, ?_, l0 a a0 (by rw [v56] at a1; exact a1), l1 a⟩⟩
  · obtain rfl : s = 0 := by omega
    exact l0 0 (by omega) (by omega)
  · rw [v56] at a1
    revert a
    exact jv_e_two (by decide +kernel) (by decide +kernel)
theorem jv_0_km (scr : List Int32) : jv_km js_e (js_0 scr) := by
  refine ⟨fun c hc => ?_, fun j _ => rfl, ?_⟩
  · match c, hc with
    | c + 1, _ => rfl
    | 0, hc => omega
  · exact jv_Ns_fr (σ := js_e) rfl jv_e_Ns
theorem jv_e_st : jk_st js_e ∧ jl_st js_e := by
  have h3 : ∀ v : Fin 2, js_e 4 ((v.val : Nat) : Int) = jk_w3 ((v.val : Nat) : Int) ∧ 97 ≤ jk_w3 ((v.val : Nat) : Int) ∧ jk_w3 ((v.val : Nat) : Int) ≤ 122 := by decide +kernel
  have h5 : ∀ v : Fin 4, js_e 6 ((v.val : Nat) : Int) = jk_w5 ((v.val : Nat) : Int) ∧ 97 ≤ jk_w5 ((v.val : Nat) : Int) ∧ jk_w5 ((v.val : Nat) : Int) ≤ 122 := by decide +kernel
  have h7 : ∀ v : Fin 5, js_e 8 ((v.val : Nat) : Int) = jk_w7 ((v.val : Nat) : Int) ∧ 97 ≤ jk_w7 ((v.val : Nat) : Int) ∧ jk_w7 ((v.val : Nat) : Int) ≤ 122 := by decide +kernel
  have h9 : ∀ v : Fin 4, js_e 10 ((v.val : Nat) : Int) = jk_w9 ((v.val : Nat) : Int) ∧ 97 ≤ jk_w9 ((v.val : Nat) : Int) ∧ jk_w9 ((v.val : Nat) : Int) ≤ 122 := by decide +kernel
  have h11 : ∀ v : Fin 3, js_e 12 ((v.val : Nat) : Int) = jk_w11 ((v.val : Nat) : Int) ∧ 97 ≤ jk_w11 ((v.val : Nat) : Int) ∧ jk_w11 ((v.val : Nat) : Int) ≤ 122 := by decide +kernel
  have h1 : ∀ v : Fin 7, js_e 2 ((v.val : Nat) : Int) = jl_w1 ((v.val : Nat) : Int) ∧ 97 ≤ jl_w1 ((v.val : Nat) : Int) ∧ jl_w1 ((v.val : Nat) : Int) ≤ 122 := by decide +kernel
  have k : ∀ {z L : Nat} {w : Int → Int}, js_e z 1 = 0 → L ≤ 7 → (∀ v : Fin L, js_e (z + 1) ((v.val : Nat) : Int) = w ((v.val : Nat) : Int) ∧ 97 ≤ w ((v.val : Nat) : Int) ∧ w ((v.val : Nat) : Int) ≤ 122) → jk_sw js_e z L w := by
    intro z L w e hL h
    refine ⟨⟨e, hL⟩, fun j j0 j1 => ?_⟩
    obtain ⟨i, rfl⟩ : ∃ i : Nat, j = i := ⟨j.toNat, by omega⟩
    exact h ⟨i, by omega⟩
  exact ⟨⟨k (by decide +kernel) (by omega) h3, k (by decide +kernel) (by omega) h5, k (by decide +kernel) (by omega) h7, k (by decide +kernel) (by omega) h9, k (by decide +kernel) (by omega) h11⟩, k (by decide +kernel) (by omega) h1⟩
theorem jv_0_sw {scr : List Int32} {z L : Nat} {w : Int → Int} (h : jk_sw js_e (z + 1) L w) : jk_sw (js_0 scr) (z + 1) L w := h
theorem jv_start (scr : List Int32) : jv_I scr.length (js_0 scr 0) (js_0 scr) := by
  obtain ⟨⟨v3, v4, v5, v7, v16⟩, ⟨v56, v57, v58, v59, v75⟩, ⟨d1, d2, d3, d5⟩, ⟨b0, b1, b2⟩, ⟨p0, p1, p2⟩, ⟨x0, x1, x2⟩, ⟨f0, f6, f9, g0⟩, ⟨l0, l5, l8, l9⟩⟩ := jv_e_v
  have hKN := jv_KN_km (jv_0_km scr) jv_e_KN
  have hPb : jx_Pb (js_0 scr) 15 := by
    show jx_Pb js_e 15
    unfold jx_Pb
    rw [p0, p1, p2]
    refine ⟨by omega, by omega, by omega, fun k k0 k1 => by omega, ?_, fun w w0 w1 => by omega⟩
    exact jv_e_three (by rw [x0]; omega) (by rw [x1]; omega) (by rw [x2]; omega)
  have hpq : jx_pq (jx_M (js_0 scr) 15) (js_0 scr) := by
    refine ⟨⟨p0.trans v3.symm, p1.trans v4.symm, p2.trans v5.symm⟩, fun j j0 j1 => ?_, fun j j0 j1 => ?_, ?_⟩
    · have : j < 3 * js_e 103 4 := j1
      omega
    · have : j < 5 * js_e 103 5 := j1
      omega
    · exact jv_e_three (x0.trans b0.symm) (x1.trans b1.symm) (x2.trans b2.symm)
  have hpt : ∀ i, 0 ≤ i → i < js_0 scr 103 56 → jx_pt (js_0 scr) 58 i = jm_ct (js_0 scr) i ∧ js_0 scr 63 i = js_0 scr 136 i := by
    intro i i0 i1
    have i2 : i < 2 := by
      rw [← v56]
      exact i1
    have h : ∀ i : Int, 0 ≤ i → i < 2 → jx_pt js_e 58 i = jm_ct js_e i ∧ js_e 63 i = js_e 136 i := jv_e_two (by decide +kernel) (by decide +kernel)
    exact h i i0 i2
  have hK : jx_K scr.length 15 jv_C (js_0 scr) := ⟨⟨⟨d2, jx_po_15 _, hPb, hpq⟩, ⟨by show (js_e 57 6).toNat = 15; rw [f6]; rfl, f0.trans v56.symm, g0.trans v56.symm, hpt⟩, hKN.1⟩, hKN, .inl f9⟩
  have hL : jq_L (fun _ => 0) (js_0 scr 42 5) = [] := by
    show jq_L (fun _ => 0) (js_e 42 5) = []
    unfold jq_L
    rw [l5, if_neg (by omega)]
  have hl : jv_l (js_0 scr) (fun _ => 0) := by
    refine ⟨⟨⟨.inl l9, .inl l8, jv_0_sw jv_e_st.2, fun j j0 j1 => ?_⟩, ?_, fun j j0 j1 => ?_, fun h => ?_⟩, ?_, l0.trans v16.symm⟩
    · rw [show js_0 scr 46 j = 0 from jv_e_z 45 rfl j]
      unfold jw_rg
      omega
    · show 0 ≤ js_e 42 5 ∧ js_e 42 5 ≤ 240
      omega
    · have : j < js_e 42 5 := j1
      omega
    · have : 0 < js_e 42 5 := h
      omega
    · rw [hL]
      refine ⟨v16, by decide, fun t q h => ?_⟩
      simp at h
  exact ⟨15, jv_C, hK, .inl ⟨rfl, d3⟩, jv_t0 d1 v7, ⟨_, hl⟩, ⟨jv_0_sw jv_e_st.1.1, jv_0_sw jv_e_st.1.2.1, jv_0_sw jv_e_st.1.2.2.1, jv_0_sw jv_e_st.1.2.2.2.1, jv_0_sw jv_e_st.1.2.2.2.2⟩, ⟨d5.trans v75.symm, .inl d5⟩, rfl⟩
theorem jv_s_rg (scr : List Int32) (j : Int) : jw_rg (js_0 scr 0 j) := by
  show jw_rg (match scr[j.toNat]? with
    | some x => x.toInt
    | none => 0)
  unfold jw_rg
  split
  · rename_i x _
    have h1 := x.le_toInt
    have h2 := x.toInt_lt
    omega
  · omega
theorem jv_S1_sz : jw_sz js_S1 ≤ 7302250 ∧ js_S1.length ≤ 600000 := by decide +kernel
theorem xowed : xOwed := by
  intro scr hlen
  obtain ⟨h1, g1, g0, run⟩ := con_any scr
  obtain ⟨N, r, σ', h', a, b, c⟩ := jv_loop (jv_s_rg scr) (n := scr.length) (by omega) scr.length (i := 0) (by omega) (by omega) (by omega) (jv_start scr) h1 (js_start g1 g0)
  subst b
  refine ⟨10 + (N + 200000), h', ?_, ?_, ?_⟩
  · rw [run _ (by omega)]
    exact c (10 + (N + 200000)) (N + 200000) 100 (by omega) (by omega) (by omega)
  · rw [a.1]
    show js_S1.length + 1 ≤ _
    have := jv_S1_sz.2
    omega
  · rw [jw_sz_ok _ h' σ' a.1 a.2]
    show scr.length + jw_sz js_S1 ≤ 7302250 + (scr.length + xsz xpre)
    have := jv_S1_sz.1
    omega

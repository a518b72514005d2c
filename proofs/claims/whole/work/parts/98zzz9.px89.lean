/-! ===== words: String.length, charAt, isWord, readWord (class) ===== -/
theorem jk_T_of {S : List jw_S} {D : Nat} {σ : jw_H} {Q : Option jw_V → jw_H → Prop} {k : Nat} {as : List jw_V} {M : xM} {ls0 : jw_L} (hM : xP[k]? = some M) (hl : (jw_es as).length ≤ M.maxL) (he : jw_en M.maxL as = ls0) (w : jw_W S D M.cd 0 ls0 [] σ Q) (hr : ∀ r σ', Q r σ' → xrok M.ret (r.map jw_v) = true) : jw_T S (D + 1) k as σ Q := by
  subst he
  intro h hh
  obtain ⟨N, r, σ', h', a, b, c⟩ := w h hh
  refine ⟨N, r, σ', h', a, b, fun F d hF hd => ?_⟩
  obtain ⟨d', rfl⟩ : ∃ d', d = d' + 1 := ⟨d - 1, by omega⟩
  have hl2 : (xes (as.map jw_v)).length ≤ M.maxL := by
    rw [jw_es_m, List.length_map]
    exact hl
  have e : xrun xft xP (xex xft xP F d') M.cd F 0 (jw_m (jw_en M.maxL as)) [] h = _ := c F F d' hF hF (by omega)
  rw [xex, hM]
  simp only
  rw [if_pos hl2, jw_en_m, e]
  simp only
  rw [if_pos (hr r σ' b)]
theorem jk_W_gs {S : List jw_S} {D : Nat} {cd : List xI} {i : Nat} {ls : jw_L} {st : List jw_V} {σ : jw_H} {Q : Option jw_V → jw_H → Prop} {pc ix n : Nat} {tg : List Nat} (hq : cd[i]? = some (pc, .getstatic ix, n, 0, tg)) (kk : jw_W S D cd (i + 1) ls (.inl 1 :: st) σ Q) : jw_W S D cd i ls st σ Q := by
  refine jw_W_step kk (fun h hh => ⟨h, hh, fun _ _ => jw_xh hq rfl ?_⟩)
  exact rfl
theorem jk_xex {F d k : Nat} {as : List Value} {h : xH} {M : xM} {r : Option Value × xH} (hM : xP[k]? = some M) (hl : (xes as).length ≤ M.maxL) (e : xrun xft xP (xex xft xP F d) M.cd F 0 (xent M.maxL as) [] h = some r) (hr : xrok M.ret r.1 = true) : xex xft xP F (d + 1) k as h = some r := by
  rw [xex, hM]
  simp only
  rw [if_pos hl, e]
  simp only
  rw [if_pos hr]
theorem jk_xc {call : Nat → List Value → xH → xR} {cd : List xI} {i f pc n k : Nat} {ins : Instr} {L : xL} {st : List Value} {h : xH} {as rest : List Value} {r : Option Value × xH} (hq : cd[i]? = some (pc, ins, n, k, [])) (hi : xisc ins = true) (hca : xca xP k st h = some (as, rest)) (hc : call k as h = some r) : xrun xft xP call cd (f + 1) i L st h = xrun xft xP call cd f (i + 1) L (r.1.toList ++ rest) r.2 := by
  have e0 := xisc_ps hi xft i k [] L st h
  rw [xrun, hq]
  simp only [e0.1, e0.2, hi, hca]
  rw [hc]
theorem jk_e360 {h : xH} {i l : Int} (i0 : 0 ≤ i) (i1 : i < l) (l1 : l ≤ 1000) {F d : Nat} (hF : 10 ≤ F) : xex xft xP F (d + 1) 360 [.int (Int32.ofInt i), .int (Int32.ofInt l), .retAddr 0] h = some (some (.int (Int32.ofInt i)), h) := by
  obtain ⟨f, rfl⟩ : ∃ f, F = f + 7 := ⟨F - 7, by omega⟩
  have ri : jw_rg i := by unfold jw_rg; omega
  have rl : jw_rg l := by unfold jw_rg; omega
  have r0 : jw_rg 0 := by unfold jw_rg; omega
  have e : xrun xft xP (xex xft xP (f + 7) d) md_360 (f + 7) 0 [some (.int (Int32.ofInt i)), some (.int (Int32.ofInt l)), some (.retAddr 0)] [] h = some (some (.int (Int32.ofInt i)), h) := by
    refine (jw_xp (cd := md_360) (i := 0) (f := f + 6) (i' := 1) (st' := [.int (Int32.ofInt i)]) rfl rfl).trans ?_
    refine (jw_xp (cd := md_360) (i := 1) (L := [some (.int (Int32.ofInt i)), some (.int (Int32.ofInt l)), some (.retAddr 0)]) (st := [.int (Int32.ofInt i)]) (f := f + 5) (i' := 2) (st' := []) rfl ((xif_ic 1 _ _ _ 5 .lt).trans ((jw_xic ri r0 .lt 5 _ []).2 (by show ¬ i < 0; omega)))).trans ?_
    refine (jw_xp (cd := md_360) (i := 2) (f := f + 4) (i' := 3) (st' := [.int (Int32.ofInt i)]) rfl rfl).trans ?_
    refine (jw_xp (cd := md_360) (i := 3) (f := f + 3) (i' := 4) (st' := [.int (Int32.ofInt l), .int (Int32.ofInt i)]) rfl rfl).trans ?_
    refine (jw_xp (cd := md_360) (i := 4) (L := [some (.int (Int32.ofInt i)), some (.int (Int32.ofInt l)), some (.retAddr 0)]) (st := [.int (Int32.ofInt l), .int (Int32.ofInt i)]) (f := f + 2) (i' := 10) (st' := []) rfl ((jw_xic ri rl .lt 10 _ []).1 (by show i < l; exact i1))).trans ?_
    refine (jw_xp (cd := md_360) (i := 10) (f := f + 1) (i' := 11) (st' := [.int (Int32.ofInt i)]) rfl rfl).trans ?_
    exact jw_xe (cd := md_360) (i := 11) rfl rfl rfl rfl
  exact jk_xex (M := mm_360) rfl (Nat.le_of_ble_eq_true rfl) e rfl
theorem jk_ci {n : Nat} {σ : jw_H} {i l : Int} (i0 : 0 ≤ i) (i1 : i < l) (l1 : l ≤ 1000) : jw_T (js_S n) 2 345 [.inl i, .inl l] σ (fun r σ' => r = none ∧ σ' = σ) := by
  intro h hh
  refine ⟨20, none, σ, h, hh, ⟨rfl, rfl⟩, fun F d hF hd => ?_⟩
  obtain ⟨d', rfl⟩ : ∃ d', d = d' + 1 + 1 := ⟨d - 2, by omega⟩
  obtain ⟨f, rfl⟩ : ∃ f, F = f + 6 := ⟨F - 6, by omega⟩
  have ex := jk_e360 (h := h) (F := f + 6) (d := d') i0 i1 l1 (by omega)
  have e : xrun xft xP (xex xft xP (f + 6) (d' + 1)) md_345 (f + 6) 0 [some (.int (Int32.ofInt i)), some (.int (Int32.ofInt l))] [] h = some (none, h) := by
    refine (jw_xp (f := f + 5) (i' := 1) (st' := [.int (Int32.ofInt i)]) rfl rfl).trans ?_
    refine (jw_xp (f := f + 4) (i' := 2) (st' := [.int (Int32.ofInt l), .int (Int32.ofInt i)]) rfl rfl).trans ?_
    refine (jw_xh (f := f + 3) (st' := [.retAddr 0, .int (Int32.ofInt l), .int (Int32.ofInt i)]) rfl rfl rfl).trans ?_
    refine (jk_xc (f := f + 2) (as := [.int (Int32.ofInt i), .int (Int32.ofInt l), .retAddr 0]) (rest := []) rfl rfl rfl ex).trans ?_
    refine (jw_xp (f := f + 1) (i' := 5) (st' := []) rfl rfl).trans ?_
    exact jw_xe (cd := md_345) (i := 5) rfl rfl rfl rfl
  exact jk_xex (M := mm_345) rfl (Nat.le_of_ble_eq_true rfl) e rfl
/-- a text of the program: its cell, how many bytes -/
def jk_so (n z L : Nat) : Prop := True ∧ (js_S n)[z]? = some (.inl (1000, [z + 4, 0])) ∧ (js_S n)[z + 1]? = some (.inr (2, L))
def jk_sw (σ : jw_H) (z L : Nat) (w : Int → Int) : Prop := (σ z 1 = 0 ∧ L ≤ 7) ∧ ∀ j, 0 ≤ j → j < (L : Int) → σ (z + 1) j = w j ∧ 97 ≤ w j ∧ w j ≤ 122
theorem jk_chr0 : ∀ v : Fin 128, xrok (some .char) (some (.int (Int32.ofInt ((v.val : Nat) : Int)))) = true := by decide +kernel
theorem jk_chr {v : Int} (h : 97 ≤ v ∧ v ≤ 122) : xrok (some .char) ((some (Sum.inl v : jw_V)).map jw_v) = true := by
  obtain ⟨k, rfl⟩ : ∃ k : Nat, v = k := ⟨v.toNat, by omega⟩
  exact jk_chr0 ⟨k, by omega⟩
theorem jk_ch0 : ∀ v : Fin 128, jw_ch (jw_and ((v.val : Nat) : Int) 255) = ((v.val : Nat) : Int) := by decide +kernel
theorem jk_ch {v : Int} (h : 97 ≤ v ∧ v ≤ 122) : jw_ch (jw_and v 255) = v := by
  obtain ⟨k, rfl⟩ : ∃ k : Nat, v = k := ⟨v.toNat, by omega⟩
  exact jk_ch0 ⟨k, by omega⟩
theorem jk_shr0 : ∀ v : Fin 128, jw_shr ((v.val : Nat) : Int) 0 = ((v.val : Nat) : Int) := by decide +kernel
def jk_isw (b : Int → Int) (s e : Int) (L : Nat) (w : Int → Int) : Prop := e - s = (L : Int) ∧ ∀ j, 0 ≤ j → j < (L : Int) → b (s + j) = w j
theorem jk_coder {n : Nat} {σ : jw_H} {z L : Nat} {w : Int → Int} (hz : jk_so n z L) (hw : jk_sw σ z L w)  : jw_T (js_S n) 1 343 [.inr (.inr z)] σ (fun r σ' => r = some (.inl (0)) ∧ σ' = σ) := by
  refine jk_T_of (D := 0) (M := mm_343) rfl (Nat.le_of_ble_eq_true rfl) (ls0 := [some (.inr (.inr z))]) rfl ?_ (by rintro _ _ ⟨rfl, -⟩; rfl)
  have hz1 := hw.1.1
  have hL := hw.1.2
  refine jk_W_gs rfl ?_
  refine jw_W_if rfl (by unfold jw_rg; omega) (fun hc1 => ?_) (fun hc1 => ?_)
  · exact absurd hc1 (show ¬ ((1 : Int) = 0) by omega)
  · clear hc1
    refine jw_W_n 1 (i' := 3) (ls' := [some (.inr (.inr z))]) (st' := [.inr (.inr z)]) rfl ?_
    refine jw_W_gf rfl hz.2.1 rfl ?_
    show jw_W (js_S n) _ md_343 4 [some (.inr (.inr z))] [.inl (σ z 1)] σ _
    refine jw_W_n 1 (i' := 6) (ls' := [some (.inr (.inr z))]) (st' := [.inl (σ z 1)]) rfl ?_
    refine jw_W_ir rfl ?_
    exact ⟨by rw [hz1], rfl⟩
theorem jk_latin {n : Nat} {σ : jw_H} {z L : Nat} {w : Int → Int} (hz : jk_so n z L) (hw : jk_sw σ z L w)  : jw_T (js_S n) 1 344 [.inr (.inr z)] σ (fun r σ' => r = some (.inl (1)) ∧ σ' = σ) := by
  refine jk_T_of (D := 0) (M := mm_344) rfl (Nat.le_of_ble_eq_true rfl) (ls0 := [some (.inr (.inr z))]) rfl ?_ (by rintro _ _ ⟨rfl, -⟩; rfl)
  have hz1 := hw.1.1
  have hL := hw.1.2
  refine jk_W_gs rfl ?_
  refine jw_W_if rfl (by unfold jw_rg; omega) (fun hc1 => ?_) (fun hc1 => ?_)
  · exact absurd hc1 (show ¬ ((1 : Int) = 0) by omega)
  · clear hc1
    refine jw_W_n 1 (i' := 3) (ls' := [some (.inr (.inr z))]) (st' := [.inr (.inr z)]) rfl ?_
    refine jw_W_gf rfl hz.2.1 rfl ?_
    show jw_W (js_S n) _ md_344 4 [some (.inr (.inr z))] [.inl (σ z 1)] σ _
    refine jw_W_if rfl (by unfold jw_rg; omega) (fun hc2 => ?_) (fun hc2 => ?_)
    · have hc2 : (σ z 1) ≠ 0 := hc2
      exfalso; omega
    · have hc2 : (σ z 1) = 0 := Classical.not_not.mp hc2
      refine jw_W_n 2 (i' := 8) (ls' := [some (.inr (.inr z))]) (st' := [.inl 1]) rfl ?_
      refine jw_W_ir rfl ?_
      exact ⟨rfl, rfl⟩
theorem jk_len {n : Nat} {σ : jw_H} {z L : Nat} {w : Int → Int} (hz : jk_so n z L) (hw : jk_sw σ z L w)  : jw_T (js_S n) 2 339 [.inr (.inr z)] σ (fun r σ' => r = some (.inl ((L : Int))) ∧ σ' = σ) := by
  refine jk_T_of (D := 1) (M := mm_339) rfl (Nat.le_of_ble_eq_true rfl) (ls0 := [some (.inr (.inr z))]) rfl ?_ (by rintro _ _ ⟨rfl, -⟩; rfl)
  have hz1 := hw.1.1
  have hL := hw.1.2
  refine jw_W_n 1 (i' := 1) (ls' := [some (.inr (.inr z))]) (st' := [.inr (.inr z)]) rfl ?_
  refine jw_W_gf rfl hz.2.1 rfl ?_
  show jw_W (js_S n) _ md_339 2 [some (.inr (.inr z))] [.inr (.inr (z + 1))] σ _
  refine jw_W_al rfl hz.2.2 ?_
  show jw_W (js_S n) _ md_339 3 [some (.inr (.inr z))] [.inl ((L : Int))] σ _
  refine jw_W_n 1 (i' := 4) (ls' := [some (.inr (.inr z))]) (st' := [.inr (.inr z), .inl ((L : Int))]) rfl ?_
  refine jw_W_call (as := [.inr (.inr z)]) (rest := [.inl ((L : Int))]) rfl rfl rfl rfl (Nat.le_of_ble_eq_true rfl) (.inr (jx_rc hz.2.1)) (jk_coder hz hw) (by omega) ?_ rfl
  rintro r1 σz ⟨rfl, hs⟩
  rw [hs]
  show jw_W (js_S n) _ md_339 5 [some (.inr (.inr z))] [.inl 0, .inl ((L : Int))] σ _
  refine jw_W_n 1 (i' := 6) (ls' := [some (.inr (.inr z))]) (st' := [.inl (jw_shr ((L : Int)) 0)]) rfl ?_
  refine jw_W_ir rfl ?_
  exact ⟨by rw [show jw_shr (L : Int) 0 = (L : Int) from jk_shr0 ⟨L, by omega⟩], rfl⟩
theorem jk_lat1 {n : Nat} {σ : jw_H} {z L : Nat} {w : Int → Int} (hz : jk_so n z L) (hw : jk_sw σ z L w) {i : Int} (i0 : 0 ≤ i) (i1 : i < (L : Int))  : jw_T (js_S n) 3 347 [.inr (.inr (z + 1)), .inl i] σ (fun r σ' => r = some (.inl (w i)) ∧ σ' = σ) := by
  refine jk_T_of (D := 2) (M := mm_347) rfl (Nat.le_of_ble_eq_true rfl) (ls0 := [some (.inr (.inr (z + 1))), some (.inl i)]) rfl ?_ (by rintro _ _ ⟨rfl, -⟩; exact jk_chr (hw.2 i i0 i1).2)
  have hz1 := hw.1.1
  have hL := hw.1.2
  refine jw_W_n 2 (i' := 2) (ls' := [some (.inr (.inr (z + 1))), some (.inl i)]) (st' := [.inr (.inr (z + 1)), .inl i]) rfl ?_
  refine jw_W_al rfl hz.2.2 ?_
  show jw_W (js_S n) _ md_347 3 [some (.inr (.inr (z + 1))), some (.inl i)] [.inl ((L : Int)), .inl i] σ _
  refine jw_W_call (as := [.inl i, .inl ((L : Int))]) (rest := []) rfl rfl rfl rfl (Nat.le_of_ble_eq_true rfl) (.inl rfl) (jk_ci i0 i1 (by omega)) (by omega) ?_ rfl
  rintro r1 σz ⟨rfl, hs⟩
  rw [hs]
  show jw_W (js_S n) _ md_347 4 [some (.inr (.inr (z + 1))), some (.inl i)] [] σ _
  refine jw_W_n 2 (i' := 6) (ls' := [some (.inr (.inr (z + 1))), some (.inl i)]) (st' := [.inl i, .inr (.inr (z + 1))]) rfl ?_
  refine jw_W_ba rfl hz.2.2 (by decide) (by omega) (by omega) (by omega) ?_
  show jw_W (js_S n) _ md_347 7 [some (.inr (.inr (z + 1))), some (.inl i)] [.inl (σ (z + 1) i)] σ _
  refine jw_W_n 3 (i' := 10) (ls' := [some (.inr (.inr (z + 1))), some (.inl i)]) (st' := [.inl (jw_ch (jw_and (σ (z + 1) i) 255))]) rfl ?_
  refine jw_W_ir rfl ?_
  exact ⟨by rw [(hw.2 i i0 i1).1, jk_ch (hw.2 i i0 i1).2], rfl⟩
theorem jk_charAt {n : Nat} {σ : jw_H} {z L : Nat} {w : Int → Int} (hz : jk_so n z L) (hw : jk_sw σ z L w) {i : Int} (i0 : 0 ≤ i) (i1 : i < (L : Int))  : jw_T (js_S n) 4 340 [.inr (.inr z), .inl i] σ (fun r σ' => r = some (.inl (w i)) ∧ σ' = σ) := by
  refine jk_T_of (D := 3) (M := mm_340) rfl (Nat.le_of_ble_eq_true rfl) (ls0 := [some (.inr (.inr z)), some (.inl i)]) rfl ?_ (by rintro _ _ ⟨rfl, -⟩; exact jk_chr (hw.2 i i0 i1).2)
  have hz1 := hw.1.1
  have hL := hw.1.2
  refine jw_W_n 1 (i' := 1) (ls' := [some (.inr (.inr z)), some (.inl i)]) (st' := [.inr (.inr z)]) rfl ?_
  refine jw_W_call (as := [.inr (.inr z)]) (rest := []) rfl rfl rfl rfl (Nat.le_of_ble_eq_true rfl) (.inr (jx_rc hz.2.1)) (jk_latin hz hw) (by omega) ?_ rfl
  rintro r1 σz ⟨rfl, hs⟩
  rw [hs]
  show jw_W (js_S n) _ md_340 2 [some (.inr (.inr z)), some (.inl i)] [.inl 1] σ _
  refine jw_W_if rfl (by unfold jw_rg; omega) (fun hc1 => ?_) (fun hc1 => ?_)
  · exact absurd hc1 (show ¬ ((1 : Int) = 0) by omega)
  · clear hc1
    refine jw_W_n 1 (i' := 4) (ls' := [some (.inr (.inr z)), some (.inl i)]) (st' := [.inr (.inr z)]) rfl ?_
    refine jw_W_gf rfl hz.2.1 rfl ?_
    show jw_W (js_S n) _ md_340 5 [some (.inr (.inr z)), some (.inl i)] [.inr (.inr (z + 1))] σ _
    refine jw_W_n 1 (i' := 6) (ls' := [some (.inr (.inr z)), some (.inl i)]) (st' := [.inl i, .inr (.inr (z + 1))]) rfl ?_
    refine jw_W_call (as := [.inr (.inr (z + 1)), .inl i]) (rest := []) rfl rfl rfl rfl (Nat.le_of_ble_eq_true rfl) (.inl rfl) (jk_lat1 hz hw i0 i1) (by omega) ?_ rfl
    rintro r1 σz ⟨rfl, hs⟩
    rw [hs]
    show jw_W (js_S n) _ md_340 7 [some (.inr (.inr z)), some (.inl i)] [.inl (w i)] σ _
    refine jw_W_ir rfl ?_
    exact ⟨rfl, rfl⟩
theorem jk_isWord_loop {n : Nat} {σ : jw_H} {z L : Nat} {w b : Int → Int} (hz : jk_so n z L) (hw : jk_sw σ z L w) (ht : jk_tx σ 34 b) {fr : Int} (h0 : 0 ≤ fr ∧ fr ≤ 1000) (h2 : σ 34 0 ≤ σ 34 1) (h1 : σ 34 0 - fr = (L : Int)) : ∀ (f : Nat) {i : Int}, 0 ≤ i → i + f = (L : Int) → (∀ j, 0 ≤ j → j < i → b (fr + j) = w j) → jw_W (js_S n) 4 md_112 13 [some (.inr (.inr 34)), some (.inr (.inr z)), some (.inl fr), some (.inl i)] [] σ (fun r σ' => (r = some (.inl 1) ∧ σ' = σ ∧ (jk_isw b fr (σ 34 0) L w)) ∨ (r = some (.inl 0) ∧ σ' = σ ∧ ¬ (jk_isw b fr (σ 34 0) L w)))
  | f, i, i0, hk, H => by
    have ih : b (fr + i) = w i → i < (L : Int) → jw_W (js_S n) 4 md_112 13 [some (.inr (.inr 34)), some (.inr (.inr z)), some (.inl fr), some (.inl (i + 1))] [] σ (fun r σ' => (r = some (.inl 1) ∧ σ' = σ ∧ (jk_isw b fr (σ 34 0) L w)) ∨ (r = some (.inl 0) ∧ σ' = σ ∧ ¬ (jk_isw b fr (σ 34 0) L w))) := by
      intro he hl
      match f, hk with
      | 0, hk => omega
      | f + 1, hk => exact jk_isWord_loop hz hw ht h0 h2 h1 f (by omega) (by omega) (fun j j0 j1 => by
          by_cases hj : j < i
          · exact H j j0 hj
          · rw [show j = i by omega]
            exact he)
    have hL := hw.1.2
    have hq0 := ht.2.1
    have hq1 := ht.2.2.1
    have h14 : (σ 34 3).toNat = 14 := by rw [ht.1]; rfl
    refine jw_W_n 2 (i' := 15) (ls' := [some (.inr (.inr 34)), some (.inr (.inr z)), some (.inl fr), some (.inl i)]) (st' := [.inr (.inr z), .inl i]) rfl ?_
    refine jw_W_call (as := [.inr (.inr z)]) (rest := [.inl i]) rfl rfl rfl rfl (Nat.le_of_ble_eq_true rfl) (.inr (jx_rc hz.2.1)) (jk_len hz hw) (by omega) ?_ rfl
    rintro r1 σz ⟨rfl, hs⟩
    rw [hs]
    show jw_W (js_S n) _ md_112 16 [some (.inr (.inr 34)), some (.inr (.inr z)), some (.inl fr), some (.inl i)] [.inl ((L : Int)), .inl i] σ _
    refine jw_W_ic rfl (by unfold jw_rg; omega) (by unfold jw_rg; omega) (fun hc1 => ?_) (fun hc1 => ?_)
    · have hc1 : i ≥ ((L : Int)) := hc1
      refine jw_W_n 1 (i' := 32) (ls' := [some (.inr (.inr 34)), some (.inr (.inr z)), some (.inl fr), some (.inl i)]) (st' := [.inl 1]) rfl ?_
      refine jw_W_ir rfl ?_
      exact .inl ⟨rfl, rfl, h1, fun j j0 j1 => H j j0 (by omega)⟩
    · have hc1 : ¬ (i ≥ ((L : Int))) := hc1
      refine jw_W_n 1 (i' := 18) (ls' := [some (.inr (.inr 34)), some (.inr (.inr z)), some (.inl fr), some (.inl i)]) (st' := [.inr (.inr 34)]) rfl ?_
      refine jw_W_gf rfl rfl rfl ?_
      show jw_W (js_S n) _ md_112 19 [some (.inr (.inr 34)), some (.inr (.inr z)), some (.inl fr), some (.inl i)] [.inr (.inr ((σ 34 3).toNat))] σ _
      rw [h14]
      refine jw_W_n 3 (i' := 22) (ls' := [some (.inr (.inr 34)), some (.inr (.inr z)), some (.inl fr), some (.inl i)]) (st' := [.inl (fr + i), .inr (.inr 14)]) rfl ?_
      refine jw_W_ia rfl rfl (by omega) (by omega) (by omega) ?_
      show jw_W (js_S n) _ md_112 23 [some (.inr (.inr 34)), some (.inr (.inr z)), some (.inl fr), some (.inl i)] [.inl (σ 14 (fr + i))] σ _
      have hbi := ht.2.2.2 (fr + i) (by omega) (by omega)
      have hwi := hw.2 i (by omega) (by omega)
      refine jw_W_n 2 (i' := 25) (ls' := [some (.inr (.inr 34)), some (.inr (.inr z)), some (.inl fr), some (.inl i)]) (st' := [.inl i, .inr (.inr z), .inl (σ 14 (fr + i))]) rfl ?_
      refine jw_W_call (as := [.inr (.inr z), .inl i]) (rest := [.inl (σ 14 (fr + i))]) rfl rfl rfl rfl (Nat.le_of_ble_eq_true rfl) (.inr (jx_rc hz.2.1)) (jk_charAt hz hw (by omega) (by omega)) (by omega) ?_ rfl
      rintro r1 σz ⟨rfl, hs⟩
      rw [hs]
      show jw_W (js_S n) _ md_112 26 [some (.inr (.inr 34)), some (.inr (.inr z)), some (.inl fr), some (.inl i)] [.inl (w i), .inl (σ 14 (fr + i))] σ _
      refine jw_W_ic rfl (by unfold jw_rg; omega) (by unfold jw_rg; omega) (fun hc2 => ?_) (fun hc2 => ?_)
      · have hc2 : (σ 14 (fr + i)) = (w i) := hc2
        refine jw_W_n 2 (i' := 13) (ls' := [some (.inr (.inr 34)), some (.inr (.inr z)), some (.inl fr), some (.inl (i + 1))]) (st' := []) rfl ?_
        exact ih (by rw [← hbi.1]; assumption) (by omega)
      · have hc2 : ¬ ((σ 14 (fr + i)) = (w i)) := hc2
        refine jw_W_n 1 (i' := 28) (ls' := [some (.inr (.inr 34)), some (.inr (.inr z)), some (.inl fr), some (.inl i)]) (st' := [.inl 0]) rfl ?_
        refine jw_W_ir rfl ?_
        exact .inr ⟨rfl, rfl, fun hh => by have := hh.2 i i0 (by omega); rw [← hbi.1] at this; omega⟩
theorem jk_isWord {n : Nat} {σ : jw_H} {z L : Nat} {w : Int → Int} (hz : jk_so n z L) (hw : jk_sw σ z L w) {b : Int → Int} (ht : jk_tx σ 34 b) {fr : Int} (h0 : 0 ≤ fr ∧ fr ≤ 1000) (h2 : σ 34 0 ≤ σ 34 1)  : jw_T (js_S n) 5 112 [.inr (.inr 34), .inr (.inr z), .inl fr] σ (fun r σ' => (r = some (.inl 1) ∧ σ' = σ ∧ (jk_isw b fr (σ 34 0) L w)) ∨ (r = some (.inl 0) ∧ σ' = σ ∧ ¬ (jk_isw b fr (σ 34 0) L w))) := by
  refine jw_T_of (D := 4) (M := mm_112) rfl (Nat.le_of_ble_eq_true rfl) (ls0 := [some (.inr (.inr 34)), some (.inr (.inr z)), some (.inl fr), none]) rfl ?_ (by rintro _ _ (⟨rfl, -⟩ | ⟨rfl, -⟩) <;> rfl)
  have hL := hw.1.2
  have hq0 := ht.2.1
  have hq1 := ht.2.2.1
  refine jw_W_n 1 (i' := 1) (ls' := [some (.inr (.inr 34)), some (.inr (.inr z)), some (.inl fr), none]) (st' := [.inl fr]) rfl ?_
  refine jw_W_if rfl (by unfold jw_rg; omega) (fun hc1 => ?_) (fun hc1 => ?_)
  · have hc1 : fr < 0 := hc1
    exfalso; omega
  · have hc1 : ¬ (fr < 0) := hc1
    refine jw_W_n 1 (i' := 3) (ls' := [some (.inr (.inr 34)), some (.inr (.inr z)), some (.inl fr), none]) (st' := [.inr (.inr 34)]) rfl ?_
    refine jw_W_gf rfl rfl rfl ?_
    show jw_W (js_S n) _ md_112 4 [some (.inr (.inr 34)), some (.inr (.inr z)), some (.inl fr), none] [.inl (σ 34 0)] σ _
    refine jw_W_n 3 (i' := 7) (ls' := [some (.inr (.inr 34)), some (.inr (.inr z)), some (.inl fr), none]) (st' := [.inr (.inr z), .inl (σ 34 0 - fr)]) rfl ?_
    refine jw_W_call (as := [.inr (.inr z)]) (rest := [.inl (σ 34 0 - fr)]) rfl rfl rfl rfl (Nat.le_of_ble_eq_true rfl) (.inr (jx_rc hz.2.1)) (jk_len hz hw) (by omega) ?_ rfl
    rintro r1 σz ⟨rfl, hs⟩
    rw [hs]
    show jw_W (js_S n) _ md_112 8 [some (.inr (.inr 34)), some (.inr (.inr z)), some (.inl fr), none] [.inl ((L : Int)), .inl (σ 34 0 - fr)] σ _
    refine jw_W_ic rfl (by unfold jw_rg; omega) (by unfold jw_rg; omega) (fun hc2 => ?_) (fun hc2 => ?_)
    · have hc2 : (σ 34 0 - fr) = ((L : Int)) := hc2
      refine jw_W_n 2 (i' := 13) (ls' := [some (.inr (.inr 34)), some (.inr (.inr z)), some (.inl fr), some (.inl 0)]) (st' := []) rfl ?_
      exact jk_isWord_loop hz hw ht h0 h2 (by assumption) L (by omega) (by omega) (fun j j0 j1 => by omega)
    · have hc2 : ¬ ((σ 34 0 - fr) = ((L : Int))) := hc2
      refine jw_W_n 1 (i' := 10) (ls' := [some (.inr (.inr 34)), some (.inr (.inr z)), some (.inl fr), none]) (st' := [.inl 0]) rfl ?_
      refine jw_W_ir rfl ?_
      exact .inr ⟨rfl, rfl, fun hh => by have := hh.1; omega⟩
def jk_w3 (j : Int) : Int := if j = 0 then 111 else 102
def jk_w5 (j : Int) : Int := if j = 0 then 119 else if j = 1 then 105 else if j = 2 then 115 else 104
def jk_w7 (j : Int) : Int := if j = 0 then 108 else if j = 1 then 101 else if j = 2 then 97 else if j = 3 then 115 else 116
def jk_w9 (j : Int) : Int := if j = 0 then 107 else if j = 1 then 101 else if j = 2 then 101 else 112
def jk_w11 (j : Int) : Int := if j = 0 then 98 else if j = 1 then 111 else 120
/-- the program's texts -/
def jk_st (σ : jw_H) : Prop := jk_sw σ 3 2 jk_w3 ∧ jk_sw σ 5 4 jk_w5 ∧ jk_sw σ 7 5 jk_w7 ∧ jk_sw σ 9 4 jk_w9 ∧ jk_sw σ 11 3 jk_w11
theorem jk_st_fr {σ σ' : jw_H} (h : jk_st σ) (e : ∀ c, c ≤ 12 → σ' c = σ c) : jk_st σ' := by
  unfold jk_st jk_sw at h ⊢
  simp only [e 3 (by omega), e 4 (by omega), e 5 (by omega), e 6 (by omega), e 7 (by omega), e 8 (by omega), e 9 (by omega), e 10 (by omega), e 11 (by omega), e 12 (by omega)]
  exact h
/-- which word stands from s to e: of, wish, least, keep, box -/
noncomputable def jk_wk (b : Int → Int) (s e : Int) : Int := @ite Int (jk_isw b s e 2 jk_w3) (Classical.propDecidable _) 1 (@ite Int (jk_isw b s e 4 jk_w5) (Classical.propDecidable _) 2 (@ite Int (jk_isw b s e 5 jk_w7) (Classical.propDecidable _) 3 (@ite Int (jk_isw b s e 4 jk_w9) (Classical.propDecidable _) 4 (@ite Int (jk_isw b s e 3 jk_w11) (Classical.propDecidable _) 5 (0)))))
/-- where the run of small letters ends -/
noncomputable def jk_we (b : Int → Int) (m : Int) : Nat → Int → Int
  | 0, i => i
  | f + 1, i => if 97 ≤ jk_h b m i ∧ jk_h b m i ≤ 122 then jk_we b m f (i + 1) else i
theorem jk_us (σ : jw_H) (o : Nat) (j : Int) : jw_up σ o j (σ o j) = σ := by
  funext o' j'
  unfold jw_up
  by_cases hh : o' = o ∧ j' = j
  · rw [if_pos hh, hh.1, hh.2]
  · rw [if_neg hh]
theorem jk_word_end {n : Nat} {σ : jw_H} {b : Int → Int} (hst : jk_st σ) (ht : jk_tx σ 34 b) {fr : Int} (h0 : 0 ≤ fr ∧ fr ≤ 1000) (h2 : σ 34 0 ≤ σ 34 1) : jw_W (js_S n) 5 md_82 29 [some (.inr (.inr 33)), some (.inl fr)] [] σ (fun r σ' => r = some (.inl (jk_wk b fr (σ 34 0))) ∧ σ' = σ) := by
  refine jw_W_n 1 (i' := 30) (ls' := [some (.inr (.inr 33)), some (.inl fr)]) (st' := [.inr (.inr 33)]) rfl ?_
  refine jw_W_gf rfl rfl rfl ?_
  show jw_W (js_S n) _ md_82 31 [some (.inr (.inr 33)), some (.inl fr)] [.inr (.inr 34)] σ _
  refine jw_W_lds rfl ?_
  refine jw_W_n 1 (i' := 33) (ls' := [some (.inr (.inr 33)), some (.inl fr)]) (st' := [.inl fr, .inr (.inr 3), .inr (.inr 34)]) rfl ?_
  refine jw_W_call (as := [.inr (.inr 34), .inr (.inr 3), .inl fr]) (rest := []) rfl rfl rfl rfl (Nat.le_of_ble_eq_true rfl) (.inr rfl) (jk_isWord (z := 3) (L := 2) (w := jk_w3) ⟨trivial, rfl, rfl⟩ hst.1 ht (fr := fr) h0 h2) (by omega) ?_ rfl
  rintro r1 σz (⟨rfl, hs, q1⟩ | ⟨rfl, hs, q1⟩)
  · rw [hs]
    show jw_W (js_S n) _ md_82 34 [some (.inr (.inr 33)), some (.inl fr)] [.inl 1] σ _
    refine jw_W_if rfl (by unfold jw_rg; omega) (fun hc1 => ?_) (fun hc1 => ?_)
    · exact absurd hc1 (show ¬ ((1 : Int) = 0) by omega)
    · clear hc1
      refine jw_W_n 1 (i' := 36) (ls' := [some (.inr (.inr 33)), some (.inl fr)]) (st' := [.inl 1]) rfl ?_
      refine jw_W_ir rfl ?_
      exact ⟨by unfold jk_wk; rw [if_pos (by assumption)], rfl⟩
  · rw [hs]
    show jw_W (js_S n) _ md_82 34 [some (.inr (.inr 33)), some (.inl fr)] [.inl 0] σ _
    refine jw_W_if rfl (by unfold jw_rg; omega) (fun hc2 => ?_) (fun hc2 => ?_)
    · clear hc2
      refine jw_W_n 1 (i' := 38) (ls' := [some (.inr (.inr 33)), some (.inl fr)]) (st' := [.inr (.inr 33)]) rfl ?_
      refine jw_W_gf rfl rfl rfl ?_
      show jw_W (js_S n) _ md_82 39 [some (.inr (.inr 33)), some (.inl fr)] [.inr (.inr 34)] σ _
      refine jw_W_lds rfl ?_
      refine jw_W_n 1 (i' := 41) (ls' := [some (.inr (.inr 33)), some (.inl fr)]) (st' := [.inl fr, .inr (.inr 5), .inr (.inr 34)]) rfl ?_
      refine jw_W_call (as := [.inr (.inr 34), .inr (.inr 5), .inl fr]) (rest := []) rfl rfl rfl rfl (Nat.le_of_ble_eq_true rfl) (.inr rfl) (jk_isWord (z := 5) (L := 4) (w := jk_w5) ⟨trivial, rfl, rfl⟩ hst.2.1 ht (fr := fr) h0 h2) (by omega) ?_ rfl
      rintro r1 σz (⟨rfl, hs, q2⟩ | ⟨rfl, hs, q2⟩)
      · rw [hs]
        show jw_W (js_S n) _ md_82 42 [some (.inr (.inr 33)), some (.inl fr)] [.inl 1] σ _
        refine jw_W_if rfl (by unfold jw_rg; omega) (fun hc3 => ?_) (fun hc3 => ?_)
        · exact absurd hc3 (show ¬ ((1 : Int) = 0) by omega)
        · clear hc3
          refine jw_W_n 1 (i' := 44) (ls' := [some (.inr (.inr 33)), some (.inl fr)]) (st' := [.inl 2]) rfl ?_
          refine jw_W_ir rfl ?_
          exact ⟨by unfold jk_wk; rw [if_neg (by assumption), if_pos (by assumption)], rfl⟩
      · rw [hs]
        show jw_W (js_S n) _ md_82 42 [some (.inr (.inr 33)), some (.inl fr)] [.inl 0] σ _
        refine jw_W_if rfl (by unfold jw_rg; omega) (fun hc4 => ?_) (fun hc4 => ?_)
        · clear hc4
          refine jw_W_n 1 (i' := 46) (ls' := [some (.inr (.inr 33)), some (.inl fr)]) (st' := [.inr (.inr 33)]) rfl ?_
          refine jw_W_gf rfl rfl rfl ?_
          show jw_W (js_S n) _ md_82 47 [some (.inr (.inr 33)), some (.inl fr)] [.inr (.inr 34)] σ _
          refine jw_W_lds rfl ?_
          refine jw_W_n 1 (i' := 49) (ls' := [some (.inr (.inr 33)), some (.inl fr)]) (st' := [.inl fr, .inr (.inr 7), .inr (.inr 34)]) rfl ?_
          refine jw_W_call (as := [.inr (.inr 34), .inr (.inr 7), .inl fr]) (rest := []) rfl rfl rfl rfl (Nat.le_of_ble_eq_true rfl) (.inr rfl) (jk_isWord (z := 7) (L := 5) (w := jk_w7) ⟨trivial, rfl, rfl⟩ hst.2.2.1 ht (fr := fr) h0 h2) (by omega) ?_ rfl
          rintro r1 σz (⟨rfl, hs, q3⟩ | ⟨rfl, hs, q3⟩)
          · rw [hs]
            show jw_W (js_S n) _ md_82 50 [some (.inr (.inr 33)), some (.inl fr)] [.inl 1] σ _
            refine jw_W_if rfl (by unfold jw_rg; omega) (fun hc5 => ?_) (fun hc5 => ?_)
            · exact absurd hc5 (show ¬ ((1 : Int) = 0) by omega)
            · clear hc5
              refine jw_W_n 1 (i' := 52) (ls' := [some (.inr (.inr 33)), some (.inl fr)]) (st' := [.inl 3]) rfl ?_
              refine jw_W_ir rfl ?_
              exact ⟨by unfold jk_wk; rw [if_neg (by assumption), if_neg (by assumption), if_pos (by assumption)], rfl⟩
          · rw [hs]
            show jw_W (js_S n) _ md_82 50 [some (.inr (.inr 33)), some (.inl fr)] [.inl 0] σ _
            refine jw_W_if rfl (by unfold jw_rg; omega) (fun hc6 => ?_) (fun hc6 => ?_)
            · clear hc6
              refine jw_W_n 1 (i' := 54) (ls' := [some (.inr (.inr 33)), some (.inl fr)]) (st' := [.inr (.inr 33)]) rfl ?_
              refine jw_W_gf rfl rfl rfl ?_
              show jw_W (js_S n) _ md_82 55 [some (.inr (.inr 33)), some (.inl fr)] [.inr (.inr 34)] σ _
              refine jw_W_lds rfl ?_
              refine jw_W_n 1 (i' := 57) (ls' := [some (.inr (.inr 33)), some (.inl fr)]) (st' := [.inl fr, .inr (.inr 9), .inr (.inr 34)]) rfl ?_
              refine jw_W_call (as := [.inr (.inr 34), .inr (.inr 9), .inl fr]) (rest := []) rfl rfl rfl rfl (Nat.le_of_ble_eq_true rfl) (.inr rfl) (jk_isWord (z := 9) (L := 4) (w := jk_w9) ⟨trivial, rfl, rfl⟩ hst.2.2.2.1 ht (fr := fr) h0 h2) (by omega) ?_ rfl
              rintro r1 σz (⟨rfl, hs, q4⟩ | ⟨rfl, hs, q4⟩)
              · rw [hs]
                show jw_W (js_S n) _ md_82 58 [some (.inr (.inr 33)), some (.inl fr)] [.inl 1] σ _
                refine jw_W_if rfl (by unfold jw_rg; omega) (fun hc7 => ?_) (fun hc7 => ?_)
                · exact absurd hc7 (show ¬ ((1 : Int) = 0) by omega)
                · clear hc7
                  refine jw_W_n 1 (i' := 60) (ls' := [some (.inr (.inr 33)), some (.inl fr)]) (st' := [.inl 4]) rfl ?_
                  refine jw_W_ir rfl ?_
                  exact ⟨by unfold jk_wk; rw [if_neg (by assumption), if_neg (by assumption), if_neg (by assumption), if_pos (by assumption)], rfl⟩
              · rw [hs]
                show jw_W (js_S n) _ md_82 58 [some (.inr (.inr 33)), some (.inl fr)] [.inl 0] σ _
                refine jw_W_if rfl (by unfold jw_rg; omega) (fun hc8 => ?_) (fun hc8 => ?_)
                · clear hc8
                  refine jw_W_n 1 (i' := 62) (ls' := [some (.inr (.inr 33)), some (.inl fr)]) (st' := [.inr (.inr 33)]) rfl ?_
                  refine jw_W_gf rfl rfl rfl ?_
                  show jw_W (js_S n) _ md_82 63 [some (.inr (.inr 33)), some (.inl fr)] [.inr (.inr 34)] σ _
                  refine jw_W_lds rfl ?_
                  refine jw_W_n 1 (i' := 65) (ls' := [some (.inr (.inr 33)), some (.inl fr)]) (st' := [.inl fr, .inr (.inr 11), .inr (.inr 34)]) rfl ?_
                  refine jw_W_call (as := [.inr (.inr 34), .inr (.inr 11), .inl fr]) (rest := []) rfl rfl rfl rfl (Nat.le_of_ble_eq_true rfl) (.inr rfl) (jk_isWord (z := 11) (L := 3) (w := jk_w11) ⟨trivial, rfl, rfl⟩ hst.2.2.2.2 ht (fr := fr) h0 h2) (by omega) ?_ rfl
                  rintro r1 σz (⟨rfl, hs, q5⟩ | ⟨rfl, hs, q5⟩)
                  · rw [hs]
                    show jw_W (js_S n) _ md_82 66 [some (.inr (.inr 33)), some (.inl fr)] [.inl 1] σ _
                    refine jw_W_if rfl (by unfold jw_rg; omega) (fun hc9 => ?_) (fun hc9 => ?_)
                    · exact absurd hc9 (show ¬ ((1 : Int) = 0) by omega)
                    · clear hc9
                      refine jw_W_n 2 (i' := 70) (ls' := [some (.inr (.inr 33)), some (.inl fr)]) (st' := [.inl 5]) rfl ?_
                      refine jw_W_ir rfl ?_
                      exact ⟨by unfold jk_wk; rw [if_neg (by assumption), if_neg (by assumption), if_neg (by assumption), if_neg (by assumption), if_pos (by assumption)], rfl⟩
                  · rw [hs]
                    show jw_W (js_S n) _ md_82 66 [some (.inr (.inr 33)), some (.inl fr)] [.inl 0] σ _
                    refine jw_W_if rfl (by unfold jw_rg; omega) (fun hc10 => ?_) (fun hc10 => ?_)
                    · clear hc10
                      refine jw_W_n 1 (i' := 70) (ls' := [some (.inr (.inr 33)), some (.inl fr)]) (st' := [.inl 0]) rfl ?_
                      refine jw_W_ir rfl ?_
                      exact ⟨by unfold jk_wk; rw [if_neg (by assumption), if_neg (by assumption), if_neg (by assumption), if_neg (by assumption), if_neg (by assumption)], rfl⟩
                    · exact absurd hc10 (show ¬ ¬ ((0 : Int) = 0) by omega)
                · exact absurd hc8 (show ¬ ¬ ((0 : Int) = 0) by omega)
            · exact absurd hc6 (show ¬ ¬ ((0 : Int) = 0) by omega)
        · exact absurd hc4 (show ¬ ¬ ((0 : Int) = 0) by omega)
    · exact absurd hc2 (show ¬ ¬ ((0 : Int) = 0) by omega)
theorem jk_word_loop {n : Nat} {σ : jw_H} {b : Int → Int} {m fr : Int} (h0 : 0 ≤ fr ∧ fr ≤ 1000) : ∀ (f : Nat) {τ : jw_H}, jk_st τ → jk_tx τ 34 b → τ 34 1 = m → τ 34 0 ≤ m → m ≤ τ 34 0 + f → τ = jw_up σ 34 0 (τ 34 0) → jw_W (js_S n) 5 md_82 4 [some (.inr (.inr 33)), some (.inl fr)] [] τ (fun r σ' => r = some (.inl (jk_wk b fr (jk_we b m (f) (τ 34 0)))) ∧ σ' = jw_up σ 34 0 (jk_we b m (f) (τ 34 0)))
  | f, τ, hst, ht, em, h2, hf, hτ => by
    have hhr := jk_h_rg (b := b) (n := τ 34 1) (i := τ 34 0) ht.2.1.1 (fun j j0 j1 => (ht.2.2.2 j j0 j1).2)
    have hq0 := ht.2.1
    have hq1 := ht.2.2.1
    have hN : ¬ (τ 34 0 < τ 34 1) → jk_h b (τ 34 1) (τ 34 0) = -1 := fun hh => by unfold jk_h; rw [if_neg hh]
    have hY : jk_h b (τ 34 1) (τ 34 0) ≠ -1 → τ 34 0 < τ 34 1 := fun hh => Classical.byContradiction (fun w => hh (hN w))
    have stop : ¬ (97 ≤ jk_h b (τ 34 1) (τ 34 0) ∧ jk_h b (τ 34 1) (τ 34 0) ≤ 122) → jw_W (js_S n) 5 md_82 29 [some (.inr (.inr 33)), some (.inl fr)] [] τ (fun r σ' => r = some (.inl (jk_wk b fr (jk_we b m (f) (τ 34 0)))) ∧ σ' = jw_up σ 34 0 (jk_we b m (f) (τ 34 0))) := by
      intro hn
      have e : jk_we b m f (τ 34 0) = τ 34 0 := by
        rw [em] at hn
        match f with
        | 0 => rfl
        | f + 1 => exact if_neg hn
      rw [e]
      refine jw_W_mono (jk_word_end hst ht h0 (by omega)) (fun r σ' hh => ⟨hh.1, hh.2.trans hτ⟩)
    have go : (97 ≤ jk_h b (τ 34 1) (τ 34 0) ∧ jk_h b (τ 34 1) (τ 34 0) ≤ 122) → jw_W (js_S n) 5 md_82 4 [some (.inr (.inr 33)), some (.inl fr)] [] (jw_up τ 34 0 (τ 34 0 + 1)) (fun r σ' => r = some (.inl (jk_wk b fr (jk_we b m (f) (τ 34 0)))) ∧ σ' = jw_up σ 34 0 (jk_we b m (f) (τ 34 0))) := by
      intro hy
      have hlt := hY (by omega)
      match f, hf with
      | 0, hf => omega
      | f + 1, hf =>
        have e : jk_we b m (f + 1) (τ 34 0) = jk_we b m f (τ 34 0 + 1) := if_pos (by rw [← em]; exact hy)
        obtain ⟨υ, hυ⟩ : ∃ υ : jw_H, υ = jw_up τ 34 0 (τ 34 0 + 1) := ⟨_, rfl⟩
        rw [← hυ, e]
        have e0 : υ 34 0 = τ 34 0 + 1 := by rw [hυ, jw_up_eq]
        have e1 : υ 34 1 = τ 34 1 := by rw [hυ, jw_up_ne _ (by omega)]
        rw [← e0]
        refine jk_word_loop h0 f (jk_st_fr hst (fun c hc => by rw [hυ, jw_up_out _ _ _ (by omega)])) (by rw [hυ]; exact jk_tx_up (.inl rfl) ht (by omega)) (by omega) (by omega) (by omega) ?_
        rw [e0, hυ]
        conv => lhs; rw [hτ]
        exact jk_uu _ _ _ _ _
    refine jw_W_n 1 (i' := 5) (ls' := [some (.inr (.inr 33)), some (.inl fr)]) (st' := [.inr (.inr 33)]) rfl ?_
    refine jw_W_gf rfl rfl rfl ?_
    show jw_W (js_S n) _ md_82 6 [some (.inr (.inr 33)), some (.inl fr)] [.inr (.inr 34)] τ _
    refine jw_W_gf rfl rfl rfl ?_
    show jw_W (js_S n) _ md_82 7 [some (.inr (.inr 33)), some (.inl fr)] [.inl (τ 34 0)] τ _
    refine jw_W_n 1 (i' := 8) (ls' := [some (.inr (.inr 33)), some (.inl fr)]) (st' := [.inr (.inr 33), .inl (τ 34 0)]) rfl ?_
    refine jw_W_gf rfl rfl rfl ?_
    show jw_W (js_S n) _ md_82 9 [some (.inr (.inr 33)), some (.inl fr)] [.inr (.inr 34), .inl (τ 34 0)] τ _
    refine jw_W_gf rfl rfl rfl ?_
    show jw_W (js_S n) _ md_82 10 [some (.inr (.inr 33)), some (.inl fr)] [.inl (τ 34 1), .inl (τ 34 0)] τ _
    refine jw_W_ic rfl (by unfold jw_rg; omega) (by unfold jw_rg; omega) (fun hc1 => ?_) (fun hc1 => ?_)
    · have hc1 : (τ 34 0) ≥ (τ 34 1) := hc1
      exact stop (by intro hh; first | omega | (have hn := hN (by omega); omega))
    · have hc1 : ¬ ((τ 34 0) ≥ (τ 34 1)) := hc1
      refine jw_W_n 1 (i' := 12) (ls' := [some (.inr (.inr 33)), some (.inl fr)]) (st' := [.inr (.inr 33)]) rfl ?_
      refine jw_W_gf rfl rfl rfl ?_
      show jw_W (js_S n) _ md_82 13 [some (.inr (.inr 33)), some (.inl fr)] [.inr (.inr 34)] τ _
      refine jw_W_call (as := [.inr (.inr 34)]) (rest := []) rfl rfl rfl rfl (Nat.le_of_ble_eq_true rfl) (.inr rfl) (jk_here (jk_to_34 n) ht) (by omega) ?_ rfl
      rintro r1 σz ⟨rfl, hs⟩
      rw [hs]
      show jw_W (js_S n) _ md_82 14 [some (.inr (.inr 33)), some (.inl fr)] [.inl (jk_h b (τ 34 1) (τ 34 0))] τ _
      refine jw_W_n 1 (i' := 15) (ls' := [some (.inr (.inr 33)), some (.inl fr)]) (st' := [.inl 97, .inl (jk_h b (τ 34 1) (τ 34 0))]) rfl ?_
      refine jw_W_ic rfl (by unfold jw_rg; omega) (by unfold jw_rg; omega) (fun hc2 => ?_) (fun hc2 => ?_)
      · have hc2 : (jk_h b (τ 34 1) (τ 34 0)) < 97 := hc2
        exact stop (by intro hh; first | omega | (have hn := hN (by omega); omega))
      · have hc2 : ¬ ((jk_h b (τ 34 1) (τ 34 0)) < 97) := hc2
        refine jw_W_n 1 (i' := 17) (ls' := [some (.inr (.inr 33)), some (.inl fr)]) (st' := [.inr (.inr 33)]) rfl ?_
        refine jw_W_gf rfl rfl rfl ?_
        show jw_W (js_S n) _ md_82 18 [some (.inr (.inr 33)), some (.inl fr)] [.inr (.inr 34)] τ _
        refine jw_W_call (as := [.inr (.inr 34)]) (rest := []) rfl rfl rfl rfl (Nat.le_of_ble_eq_true rfl) (.inr rfl) (jk_here (jk_to_34 n) ht) (by omega) ?_ rfl
        rintro r1 σz ⟨rfl, hs⟩
        rw [hs]
        show jw_W (js_S n) _ md_82 19 [some (.inr (.inr 33)), some (.inl fr)] [.inl (jk_h b (τ 34 1) (τ 34 0))] τ _
        refine jw_W_n 1 (i' := 20) (ls' := [some (.inr (.inr 33)), some (.inl fr)]) (st' := [.inl 122, .inl (jk_h b (τ 34 1) (τ 34 0))]) rfl ?_
        refine jw_W_ic rfl (by unfold jw_rg; omega) (by unfold jw_rg; omega) (fun hc3 => ?_) (fun hc3 => ?_)
        · have hc3 : (jk_h b (τ 34 1) (τ 34 0)) > 122 := hc3
          exact stop (by intro hh; first | omega | (have hn := hN (by omega); omega))
        · have hc3 : ¬ ((jk_h b (τ 34 1) (τ 34 0)) > 122) := hc3
          refine jw_W_n 1 (i' := 22) (ls' := [some (.inr (.inr 33)), some (.inl fr)]) (st' := [.inr (.inr 33)]) rfl ?_
          refine jw_W_gf rfl rfl rfl ?_
          show jw_W (js_S n) _ md_82 23 [some (.inr (.inr 33)), some (.inl fr)] [.inr (.inr 34)] τ _
          refine jw_W_n 1 (i' := 24) (ls' := [some (.inr (.inr 33)), some (.inl fr)]) (st' := [.inr (.inr 34), .inr (.inr 34)]) rfl ?_
          refine jw_W_gf rfl rfl rfl ?_
          show jw_W (js_S n) _ md_82 25 [some (.inr (.inr 33)), some (.inl fr)] [.inl (τ 34 0), .inr (.inr 34)] τ _
          refine jw_W_n 2 (i' := 27) (ls' := [some (.inr (.inr 33)), some (.inl fr)]) (st' := [.inl (τ 34 0 + 1), .inr (.inr 34)]) rfl ?_
          refine jw_W_pf (a := τ 34 0 + 1) rfl (by omega) rfl rfl rfl rfl rfl ?_
          refine jw_W_n 1 (i' := 4) (ls' := [some (.inr (.inr 33)), some (.inl fr)]) (st' := []) rfl ?_
          exact go (by omega)
theorem jk_readWord {n : Nat} {σ : jw_H} {b : Int → Int} (hst : jk_st σ) (ht : jk_tx σ 34 b) (h2 : σ 34 0 ≤ σ 34 1)  : jw_T (js_S n) 6 82 [.inr (.inr 33)] σ (fun r σ' => r = some (.inl (jk_wk b (σ 34 0) (jk_we b (σ 34 1) 300 (σ 34 0)))) ∧ σ' = jw_up σ 34 0 (jk_we b (σ 34 1) 300 (σ 34 0))) := by
  refine jw_T_of (D := 5) (M := mm_82) rfl (Nat.le_of_ble_eq_true rfl) (ls0 := [some (.inr (.inr 33)), none]) rfl ?_ (by rintro _ _ ⟨rfl, -⟩; rfl)
  have hq0 := ht.2.1
  have hq1 := ht.2.2.1
  refine jw_W_n 1 (i' := 1) (ls' := [some (.inr (.inr 33)), none]) (st' := [.inr (.inr 33)]) rfl ?_
  refine jw_W_gf rfl rfl rfl ?_
  show jw_W (js_S n) _ md_82 2 [some (.inr (.inr 33)), none] [.inr (.inr 34)] σ _
  refine jw_W_gf rfl rfl rfl ?_
  show jw_W (js_S n) _ md_82 3 [some (.inr (.inr 33)), none] [.inl (σ 34 0)] σ _
  refine jw_W_n 1 (i' := 4) (ls' := [some (.inr (.inr 33)), some (.inl (σ 34 0))]) (st' := []) rfl ?_
  exact jk_word_loop (σ := σ) (fr := σ 34 0) ⟨ht.2.1.1, by omega⟩ 300 hst ht rfl h2 (by have := ht.2.2.1; omega) (jk_us σ 34 0).symm

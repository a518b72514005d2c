/-! ===== the engine over whole numbers: calls, methods ===== -/
section JWC
variable {S : List jw_S} {D : Nat} {cd : List xI} {i : Nat} {ls : jw_L} {st : List jw_V} {σ : jw_H} {Q : Option jw_V → jw_H → Prop}
def jw_cw (st : List jw_V) : Nat := (st.map jw_cat).sum
theorem jw_cw_m (st : List jw_V) : xcw (st.map jw_v) = jw_cw st := by
  unfold xcw jw_cw
  rw [List.map_map]
  congr 1
  apply List.map_congr_left
  intro v _
  exact jw_cat_v v
def jw_rc (S : List jw_S) (ci : Nat) (as : List jw_V) : Bool := match as with
  | .inr (.inr o) :: _ => (match S[o]? with
    | some (.inl (c, _)) => c == ci
    | _ => false)
  | _ => false
theorem jw_rc_ok {ci : Nat} {as : List jw_V} {h : xH} (hh : jw_ok S σ h) (hr : jw_rc S ci as = true) : xrc ci (as.map jw_v) h = true := by
  unfold jw_rc at hr
  split at hr
  · rename_i o r
    split at hr
    · rename_i c ks hs
      have e := hh.2 o _ hs
      simp only [xrc, List.map_cons, jw_v, e, jw_c]
      exact hr
    · cases hr
  · cases hr
/-- a call -/
theorem jw_W_call {pc n k D' : Nat} {ins : Instr} {as rest : List jw_V} {M : xM} {Q1 : Option jw_V → jw_H → Prop} (hq : cd[i]? = some (pc, ins, n, k, [])) (hi : xisc ins = true) (hM : xP[k]? = some M) (ha : as.length = if M.kind = 0 then M.np else M.np + 1) (hw : jw_cw rest ≤ 8) (hrc : M.kind = 0 ∨ jw_rc S M.ci as = true) (hT : jw_T S D' k as σ Q1) (hD : D' ≤ D) (kk : ∀ r σ1, Q1 r σ1 → jw_W S D cd (i + 1) ls (r.toList ++ rest) σ1 Q) (hst : st = as.reverse ++ rest) : jw_W S D cd i ls st σ Q := by
  subst hst
  intro h hh
  obtain ⟨N1, r, σ1, h1, a1, b1, c1⟩ := hT h hh
  obtain ⟨N2, r2, σ2, h2, a2, b2, c2⟩ := kk r σ1 b1 h1 a1
  refine ⟨N1 + N2 + 1, r2, σ2, h2, a2, b2, fun F f d hF hf hd => ?_⟩
  obtain ⟨f', rfl⟩ : ∃ f', f = f' + 1 := ⟨f - 1, by omega⟩
  have e0 := xisc_ps hi xft i k [] (jw_m ls) ((as.reverse ++ rest).map jw_v) h
  have hl : ((as.reverse ++ rest).map jw_v).take (if M.kind = 0 then M.np else M.np + 1) = (as.reverse).map jw_v := by
    rw [← ha, List.map_append, List.take_left' (by rw [List.length_map, List.length_reverse])]
  have hd2 : ((as.reverse ++ rest).map jw_v).drop (if M.kind = 0 then M.np else M.np + 1) = rest.map jw_v := by
    rw [← ha, List.map_append, List.drop_left' (by rw [List.length_map, List.length_reverse])]
  have hca : xca xP k ((as.reverse ++ rest).map jw_v) h = some (as.map jw_v, rest.map jw_v) := by
    unfold xca
    rw [hM]
    simp only
    rw [hl, hd2, List.map_reverse, List.reverse_reverse, jw_cw_m]
    rw [if_pos]
    refine ⟨?_, hw, hrc.imp id (fun w => jw_rc_ok hh w)⟩
    rw [← ha, List.length_map, List.length_append, List.length_reverse]
    omega
  rw [xrun, hq]
  simp only [e0.1, e0.2, hi, hca]
  rw [c1 F d (by omega) (Nat.le_trans hD hd)]
  simp only
  have c3 := c2 F f' d (by omega) (by omega) hd
  rw [List.map_append] at c3
  cases r <;> exact c3
/-- a whole method -/
def jw_es : List jw_V → jw_L
  | [] => []
  | v :: vs => if jw_cat v = 2 then some v :: none :: jw_es vs else some v :: jw_es vs
theorem jw_es_m : ∀ as : List jw_V, xes (as.map jw_v) = jw_m (jw_es as)
  | [] => rfl
  | v :: vs => by
    show (if (jw_v v).category = 2 then _ else _) = jw_m (if jw_cat v = 2 then _ else _)
    rw [jw_cat_v, jw_es_m vs]
    split <;> rfl
def jw_en (n : Nat) (as : List jw_V) : jw_L := jw_es as ++ List.replicate (n - (jw_es as).length) none
theorem jw_en_m (n : Nat) (as : List jw_V) : xent n (as.map jw_v) = jw_m (jw_en n as) := by
  unfold xent jw_en
  rw [jw_es_m]
  simp only [jw_m, List.length_map, List.map_append, List.map_replicate, Option.map_none]
def jw_rk : Option FieldType → Option jw_V → Bool
  | none, none => true
  | some .int, some (.inl _) => true
  | some .boolean, some (.inl a) => a == 0 || a == 1
  | some .long, some (.inr (.inl _)) => true
  | _, _ => false
theorem jw_rk_ok {t : Option FieldType} {r : Option jw_V} (h : jw_rk t r = true) : xrok t (r.map jw_v) = true := by
  unfold jw_rk at h
  split at h
  · rfl
  · rfl
  · rename_i a
    rw [Bool.or_eq_true, beq_iff_eq, beq_iff_eq] at h
    rcases h with rfl | rfl <;> rfl
  · rfl
  · cases h
theorem jw_T_of {k : Nat} {as : List jw_V} {M : xM} {ls0 : jw_L} (hM : xP[k]? = some M) (hl : (jw_es as).length ≤ M.maxL) (he : jw_en M.maxL as = ls0) (w : jw_W S D M.cd 0 ls0 [] σ Q) (hr : ∀ r σ', Q r σ' → jw_rk M.ret r = true) : jw_T S (D + 1) k as σ Q := by
  subst he
  intro h hh
  obtain ⟨N, r, σ', h', a, b, c⟩ := w h hh
  refine ⟨N, r, σ', h', a, b, fun F d hF hd => ?_⟩
  obtain ⟨d', rfl⟩ : ∃ d', d = d' + 1 := ⟨d - 1, by omega⟩
  have hl2 : (xes (as.map jw_v)).length ≤ M.maxL := by
    rw [jw_es_m, List.length_map]
    exact hl
  have e : xrun xft xP (xex xft xP F d') M.cd F 0 (jw_m (jw_en M.maxL as)) [] h = _ := c F F d' hF hF (by omega)
  rw [xex, hM]
  simp only
  rw [if_pos hl2, jw_en_m, e]
  simp only
  rw [if_pos (jw_rk_ok (hr r σ' b))]
/-! what the JDK does -/
theorem jw_xb {call : Nat → List Value → xH → xR} {f pc n a t : Nat} {tg : List Nat} {ins : Instr} {L : xL} {st : List Value} {h : xH} {st' : List Value} {h' : xH} (hq : cd[i]? = some (pc, ins, n, a, t :: tg)) (hi : xisc ins = true) (hs : xbt a st h = some (st', h')) : xrun xft xP call cd (f + 1) i L st h = xrun xft xP call cd f (i + 1) L st' h' := by
  obtain ⟨e1, e2⟩ := xisc_ps hi xft i a (t :: tg) L st h
  rw [xrun, hq]
  simp only [e1, e2, hi, hs]
theorem jw_abs32 {x : Int} (hx : jw_rg x) : (if 0 ≤ Int32.ofInt x then Int32.ofInt x else 0 - Int32.ofInt x) = Int32.ofInt (if 0 ≤ x then x else -x) := by
  have k : 0 ≤ Int32.ofInt x ↔ 0 ≤ x := jw_le32 (x := 0) (by unfold jw_rg; omega) hx
  by_cases h : 0 ≤ x
  · rw [if_pos (k.mpr h), if_pos h]
  · rw [if_neg (fun w => h (k.mp w)), if_neg h, Int32.ofInt_neg, Int32.zero_sub]
theorem jw_abs64 {x : Int} (hx : jw_rgl x) : (if 0 < Int64.ofInt x then Int64.ofInt x else -Int64.ofInt x) = Int64.ofInt (if 0 < x then x else -x) := by
  have k : 0 < Int64.ofInt x ↔ 0 < x := jw_lt64 (x := 0) (by unfold jw_rgl; omega) hx
  by_cases h : 0 < x
  · rw [if_pos (k.mpr h), if_pos h]
  · rw [if_neg (fun w => h (k.mp w)), if_neg h, Int64.ofInt_neg]
theorem jw_W_abs {pc n t : Nat} {tg : List Nat} {ins : Instr} {x : Int} (hq : cd[i]? = some (pc, ins, n, 2, t :: tg)) (hi : xisc ins = true) (hx : jw_rg x) (hw : jw_cw st ≤ 8) (kk : jw_W S D cd (i + 1) ls (.inl (if 0 ≤ x then x else -x) :: st) σ Q) : jw_W S D cd i ls (.inl x :: st) σ Q := by
  refine jw_W_step kk (fun h hh => ⟨h, hh, fun _ _ => jw_xb hq hi ?_⟩)
  show (if xcw (st.map jw_v) ≤ 8 then _ else _) = _
  rw [jw_cw_m, if_pos hw, jw_abs32 hx]
  rfl
theorem jw_W_labs {pc n t : Nat} {tg : List Nat} {ins : Instr} {x : Int} (hq : cd[i]? = some (pc, ins, n, 3, t :: tg)) (hi : xisc ins = true) (hx : jw_rgl x) (hw : jw_cw st ≤ 8) (kk : jw_W S D cd (i + 1) ls (.inr (.inl (if 0 < x then x else -x)) :: st) σ Q) : jw_W S D cd i ls (.inr (.inl x) :: st) σ Q := by
  refine jw_W_step kk (fun h hh => ⟨h, hh, fun _ _ => jw_xb hq hi ?_⟩)
  show (if xcw (st.map jw_v) ≤ 8 then _ else _) = _
  rw [jw_cw_m, if_pos hw, jw_abs64 hx]
  rfl
theorem jw_W_max {pc n t : Nat} {tg : List Nat} {ins : Instr} {x y : Int} (hq : cd[i]? = some (pc, ins, n, 4, t :: tg)) (hi : xisc ins = true) (hx : jw_rg x) (hy : jw_rg y) (hw : jw_cw st ≤ 8) (kk : jw_W S D cd (i + 1) ls (.inl (if x < y then y else x) :: st) σ Q) : jw_W S D cd i ls (.inl y :: .inl x :: st) σ Q := by
  refine jw_W_step kk (fun h hh => ⟨h, hh, fun _ _ => jw_xb hq hi ?_⟩)
  show (if xcw (st.map jw_v) ≤ 8 then _ else _) = _
  rw [jw_cw_m, if_pos hw]
  have k := jw_lt32 hx hy
  by_cases h : x < y
  · rw [if_pos (k.mpr h), if_pos h]
    rfl
  · rw [if_neg (fun w => h (k.mp w)), if_neg h]
    rfl
theorem jw_W_min {pc n t : Nat} {tg : List Nat} {ins : Instr} {x y : Int} (hq : cd[i]? = some (pc, ins, n, 5, t :: tg)) (hi : xisc ins = true) (hx : jw_rg x) (hy : jw_rg y) (hw : jw_cw st ≤ 8) (kk : jw_W S D cd (i + 1) ls (.inl (if y < x then y else x) :: st) σ Q) : jw_W S D cd i ls (.inl y :: .inl x :: st) σ Q := by
  refine jw_W_step kk (fun h hh => ⟨h, hh, fun _ _ => jw_xb hq hi ?_⟩)
  show (if xcw (st.map jw_v) ≤ 8 then _ else _) = _
  rw [jw_cw_m, if_pos hw]
  have k := jw_lt32 hy hx
  by_cases h : y < x
  · rw [if_pos (k.mpr h), if_pos h]
    rfl
  · rw [if_neg (fun w => h (k.mp w)), if_neg h]
    rfl
/-- Object's own constructor asks nothing -/
theorem jw_W_ob {pc n t o : Nat} {tg : List Nat} {ins : Instr} (hq : cd[i]? = some (pc, ins, n, 0, t :: tg)) (hi : xisc ins = true) (hw : jw_cw st ≤ 8) (kk : jw_W S D cd (i + 1) ls st σ Q) : jw_W S D cd i ls (.inr (.inr o) :: st) σ Q := by
  refine jw_W_step kk (fun h hh => ⟨h, hh, fun _ _ => jw_xb hq hi ?_⟩)
  show (if xcw (st.map jw_v) ≤ 8 then _ else _) = _
  rw [jw_cw_m, if_pos hw]
/-- a row copied: of the store only the target's places change -/
def jw_cp (σ : jw_H) (o : Nat) (sp : Int) (d : Nat) (dp n : Int) : jw_H := fun o' j => if o' = d ∧ dp ≤ j ∧ j < dp + n then σ o (sp + (j - dp)) else σ o' j
theorem jw_ok_cp {h : xH} {o d lo ld : Nat} {sp dp n : Int} (hh : jw_ok S σ h) (ho : S[o]? = some (.inr (0, lo))) (hd : S[d]? = some (.inr (0, ld))) (h1 : 0 ≤ sp) (h2 : 0 ≤ dp) (h3 : 0 ≤ n) (h4 : sp + n ≤ lo) (h5 : dp + n ≤ ld) : jw_ok S (jw_cp σ o sp d dp n) (h.set d (.inr (.inl (0, xcp (jw_ri lo (σ o)) (jw_ri ld (σ d)) sp.toNat dp.toNat n.toNat)))) := by
  refine ⟨by rw [List.length_set]; exact hh.1, fun o' s' hs' => ?_⟩
  by_cases e : o' = d
  · subst e
    rw [hd] at hs'
    cases hs'
    have hl : o' < h.length := by
      rw [hh.1]
      exact (List.getElem?_eq_some_iff.mp hd).1
    rw [List.getElem?_set_self hl]
    have hx : (jw_ri lo (σ o)).length = lo := by
      unfold jw_ri
      rw [List.length_map, List.length_range]
    have hy : (jw_ri ld (σ o')).length = ld := by
      unfold jw_ri
      rw [List.length_map, List.length_range]
    show some (Sum.inr (Sum.inl (0, _)) : xC) = some (Sum.inr (Sum.inl (0, _)))
    congr 4
    apply List.ext_getElem?
    intro j
    rw [xcp_get (by rw [hx]; omega) (by rw [hy]; omega)]
    by_cases hj : j < ld
    · have e1 := jw_ri_get ld (jw_cp σ o sp o' dp n o') (j := (j : Int)) (by omega) (by omega)
      rw [Int.toNat_natCast] at e1
      rw [e1]
      by_cases hc : dp.toNat ≤ j ∧ j < dp.toNat + n.toNat
      · rw [if_pos hc]
        have e2 := jw_ri_get lo (σ o) (j := sp + ((j : Int) - dp)) (by omega) (by omega)
        have e3 : (sp + ((j : Int) - dp)).toNat = sp.toNat + (j - dp.toNat) := by omega
        rw [e3] at e2
        rw [e2]
        have e4 : o' = o' ∧ dp ≤ (j : Int) ∧ (j : Int) < dp + n := ⟨rfl, by omega, by omega⟩
        have e5 : jw_cp σ o sp o' dp n o' (j : Int) = σ o (sp + ((j : Int) - dp)) := if_pos e4
        rw [e5]
      · rw [if_neg hc]
        have e2 := jw_ri_get ld (σ o') (j := (j : Int)) (by omega) (by omega)
        rw [Int.toNat_natCast] at e2
        rw [e2]
        have e4 : ¬ (o' = o' ∧ dp ≤ (j : Int) ∧ (j : Int) < dp + n) := fun w => hc (by omega)
        have e5 : jw_cp σ o sp o' dp n o' (j : Int) = σ o' (j : Int) := if_neg e4
        rw [e5]
    · have hc : ¬ (dp.toNat ≤ j ∧ j < dp.toNat + n.toNat) := by omega
      have hz : (jw_ri ld (jw_cp σ o sp o' dp n o')).length = ld := by
        unfold jw_ri
        rw [List.length_map, List.length_range]
      rw [if_neg hc, List.getElem?_eq_none (by omega), List.getElem?_eq_none (by omega)]
  · rw [List.getElem?_set_ne (fun w => e w.symm)]
    have e2 : jw_cp σ o sp d dp n o' = σ o' := by
      funext j
      simp only [jw_cp, e, false_and, if_false]
    rw [e2]
    exact hh.2 o' s' hs'
theorem jw_W_cp {pc n t o d lo ld : Nat} {tg : List Nat} {ins : Instr} {sp dp m : Int} (hq : cd[i]? = some (pc, ins, n, 1, t :: tg)) (hi : xisc ins = true) (hd13 : 13 ≤ d) (ho : S[o]? = some (.inr (0, lo))) (hd : S[d]? = some (.inr (0, ld))) (h1 : 0 ≤ sp) (h2 : 0 ≤ dp) (h3 : 0 ≤ m) (h4 : sp + m ≤ lo) (h5 : dp + m ≤ ld) (h6 : lo < 100000) (h7 : ld < 100000) (hw : jw_cw st ≤ 8) (kk : jw_W S D cd (i + 1) ls st (jw_cp σ o sp d dp m) Q) : jw_W S D cd i ls (.inl m :: .inl dp :: .inr (.inr d) :: .inl sp :: .inr (.inr o) :: st) σ Q := by
  refine jw_W_step kk (fun h hh => ⟨_, jw_ok_cp hh ho hd h1 h2 h3 h4 h5, fun _ _ => jw_xb hq hi ?_⟩)
  have e1 := hh.2 o _ ho
  have e2 := hh.2 d _ hd
  obtain ⟨a1, a2⟩ := jw_ix h1 (by omega)
  obtain ⟨b1, b2⟩ := jw_ix h2 (by omega)
  obtain ⟨c1, c2⟩ := jw_ix h3 (by omega)
  show xbt 1 (.int (Int32.ofInt m) :: .int (Int32.ofInt dp) :: .ref d :: .int (Int32.ofInt sp) :: .ref o :: st.map jw_v) h = _
  unfold xbt
  simp only [e1, e2, jw_c]
  rw [if_pos]
  · rw [a2, b2, c2]
  · refine ⟨by rw [jw_cw_m]; exact hw, hd13, a1, b1, c1, ?_, ?_⟩
    · rw [a2, c2]
      unfold jw_ri
      rw [List.length_map, List.length_range]
      omega
    · rw [b2, c2]
      unfold jw_ri
      rw [List.length_map, List.length_range]
      omega
end JWC

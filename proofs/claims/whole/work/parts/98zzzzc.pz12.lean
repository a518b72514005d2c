/-! ===== the law, the reference: whole codes ===== -/
/-- codes as the grammar makes them: of a number (false), of a condition (true) -/
def jl_gd (b : Bool) (c : List (Int × Int)) : Prop := ∀ P : Bool → List (Int × Int) → Prop, (∀ v, 0 ≤ v → v ≤ 99999 → P false [(0, v)]) → (∀ v, 0 ≤ v → v < 7 → P false [(1, v)]) → (∀ A B o, P false A → P false B → 2 ≤ o → o ≤ 6 → P false (A ++ B ++ [(o, 0)])) → (∀ A B o, P false A → P false B → 7 ≤ o → o ≤ 9 → P true (A ++ B ++ [(o, 0)])) → (∀ A, P true A → P true (A ++ [(10, 0)])) → (∀ A B, P true A → P true B → P true (A ++ (11, (B.length : Int)) :: B)) → (∀ A B, P true A → P true B → P true (A ++ (12, (B.length : Int)) :: B)) → P b c
def jl_wd (q : Int × Int) (p : Int) : Int := 1048576 * q.1 + (if q.1 = 11 ∨ q.1 = 12 then p + 1 + q.2 else q.2)
def jl_cs (σ : jw_H) (p : Int) (c : List (Int × Int)) : Prop := ∀ (i : Nat) (q : Int × Int), c[i]? = some q → σ 114 (p + (i : Int)) = jl_wd q (p + (i : Int))
theorem jl_cs_l {σ : jw_H} {p : Int} {A B : List (Int × Int)} (h : jl_cs σ p (A ++ B)) : jl_cs σ p A := fun i q hq => h i q (by rw [List.getElem?_append_left (List.getElem?_eq_some_iff.mp hq).1]; exact hq)
theorem jl_cs_r {σ : jw_H} {p : Int} {A B : List (Int × Int)} (h : jl_cs σ p (A ++ B)) : jl_cs σ (p + (A.length : Int)) B := fun i q hq => by
  have k := h (A.length + i) q (by rw [List.getElem?_append_right (by omega), Nat.add_sub_cancel_left]; exact hq)
  rw [show p + ((A.length + i : Nat) : Int) = p + (A.length : Int) + (i : Int) by omega] at k
  exact k
theorem jl_cs_c {σ : jw_H} {p : Int} {q : Int × Int} {B : List (Int × Int)} (h : jl_cs σ p (q :: B)) : σ 114 p = jl_wd q p ∧ jl_cs σ (p + 1) B := by
  have k := h 0 q rfl
  rw [show p + ((0 : Nat) : Int) = p by omega] at k
  exact ⟨k, jl_cs_r (A := [q]) h⟩
theorem jl_cs_fr {σ σ' : jw_H} {p : Int} {c : List (Int × Int)} (h : jl_cs σ p c) (e : σ' 114 = σ 114) : jl_cs σ' p c := fun i q hq => by
  rw [e]
  exact h i q hq
def jl_fs (c : Int) (σ σ' : jw_H) : Prop := (∀ o, o ≠ 119 → σ' o = σ o) ∧ ∀ j, j < c → σ' 119 j = σ 119 j
theorem jl_fs_rf (c : Int) (σ : jw_H) : jl_fs c σ σ := ⟨fun _ _ => rfl, fun _ _ => rfl⟩
theorem jl_fs_tr {c c' : Int} {σ σ' σ'' : jw_H} (h : jl_fs c σ σ') (k : jl_fs c' σ' σ'') (hc : c ≤ c') : jl_fs c σ σ'' := ⟨fun o ho => (k.1 o ho).trans (h.1 o ho), fun j hj => (k.2 j (by omega)).trans (h.2 j hj)⟩
theorem jl_fs_up {c : Int} {σ σ' : jw_H} (h : jl_fs c σ σ') {j v : Int} (hj : c ≤ j) : jl_fs c σ (jw_up σ' 119 j v) := ⟨fun o ho => by rw [jw_up_out _ _ _ ho]; exact h.1 o ho, fun k hk => by rw [jw_up_ne _ (by omega)]; exact h.2 k hk⟩
/-- run from there the codes are refused (0), or leave v on the stack -/
def jl_mv (n D : Nat) (e : Int → Int) (c : List (Int × Int)) (d : Prop) (v : Int) : Prop := ∀ (σ : jw_H) (Q : Option jw_V → jw_H → Prop) (fr to p cc : Int) (r6 r7 : Option jw_V), 0 ≤ p → p + (c.length : Int) ≤ to → to ≤ 260 → 0 ≤ cc → cc + (c.length : Int) ≤ 260 → jl_cs σ p c → (∀ j, 0 ≤ j → j < 7 → σ 120 j = e j) → (d → ∀ σ', jl_fs cc σ σ' → Q (some (.inl 0)) σ') → (¬ d → ∀ (σ' : jw_H) (y6 y7 : Option jw_V), jl_fs cc σ σ' → σ' 119 cc = v → jw_W (js_S n) D md_209 10 [some (.inr (.inr 103)), some (.inl fr), some (.inl to), some (.inl (cc + 1)), some (.inl 0), some (.inl (p + (c.length : Int))), y6, y7] [] σ' Q) → jw_W (js_S n) D md_209 10 [some (.inr (.inr 103)), some (.inl fr), some (.inl to), some (.inl cc), some (.inl 0), some (.inl p), r6, r7] [] σ Q
def jl_pm (n D : Nat) (e : Int → Int) (b : Bool) (c : List (Int × Int)) : Prop := ∃ (d : Prop) (v : Int), 1 ≤ c.length ∧ jw_rg v ∧ (b = true → v = 0 ∨ v = 1) ∧ jl_val e c d v ∧ jl_mv n D e c d v
theorem jl_rk_rg {o x y : Int} : jw_rg (jl_rk o x y) := by
  unfold jl_rk
  repeat' split
  all_goals first | exact jl_n_rg _ | exact (jl_div_rg _ _).1 | exact (jl_div_rg _ _).2 | (unfold jw_rg; omega)
section JLM
variable {n D : Nat} {e : Int → Int} {A B : List (Int × Int)} {o v : Int}
theorem jl_pm_num (hD : 1 ≤ D) (h0 : 0 ≤ v) (h1 : v ≤ 99999) : jl_pm n D e false [(0, v)] := by
  refine ⟨False, v, Nat.le_refl 1, by unfold jw_rg; omega, fun h => Bool.noConfusion h, jl_val_num, fun σ Q fr to p cc r6 r7 hp hl ht hc hcl hcs he k0 k1 => ?_⟩
  have hw := (jl_cs_c hcs).1
  simp only [List.length_singleton] at hl hcl k1
  refine jl_st_num (by omega) (by omega) (v := v) (hw.trans ?_) (by omega) (by omega) hD (by omega) ?_
  · unfold jl_wd
    rw [if_neg (by omega)]
  · exact k1 id _ _ _ (jl_fs_up (jl_fs_rf cc σ) (Int.le_refl _)) (jw_up_eq _ _ _ _)
theorem jl_pm_let (hD : 1 ≤ D) (he : ∀ j, 0 ≤ j → j < 7 → jw_rg (e j)) (h0 : 0 ≤ v) (h1 : v < 7) : jl_pm n D e false [(1, v)] := by
  refine ⟨False, e v, Nat.le_refl 1, he v h0 h1, fun h => Bool.noConfusion h, jl_val_let, fun σ Q fr to p cc r6 r7 hp hl ht hc hcl hcs he k0 k1 => ?_⟩
  have hw := (jl_cs_c hcs).1
  simp only [List.length_singleton] at hl hcl k1
  refine jl_st_let (by omega) (by omega) (v := v) (hw.trans ?_) (by omega) (by omega) hD (by omega) h1 ?_
  · unfold jl_wd
    rw [if_neg (by omega)]
  · exact k1 id _ _ _ (jl_fs_up (jl_fs_rf cc σ) (Int.le_refl _)) ((jw_up_eq _ _ _ _).trans (he v h0 h1))
theorem jl_pm_not (hD : 1 ≤ D) (ha : jl_pm n D e true A) : jl_pm n D e true (A ++ [(10, 0)]) := by
  obtain ⟨d, x, la, rx, bx, hval, hmv⟩ := ha
  have hb := bx rfl
  refine ⟨d, 1 - x, by rw [List.length_append]; omega, by unfold jw_rg; omega, fun _ => by omega, jl_val_not hval, fun σ Q fr to p cc r6 r7 hp hl ht hc hcl hcs he k0 k1 => ?_⟩
  simp only [List.length_append, List.length_singleton] at hl hcl k1
  refine hmv σ Q fr to p cc r6 r7 hp (by omega) ht hc (by omega) (jl_cs_l hcs) he k0 (fun hd σ1 y6 y7 hf hx => ?_)
  have hw := (jl_cs_c (jl_cs_fr (jl_cs_r hcs) (hf.1 114 (by omega)))).1
  refine jl_st_not (by omega) (by omega) (v := 0) (hw.trans ?_) (by omega) (by omega) hD (by omega) ?_
  · unfold jl_wd
    rw [if_neg (by omega)]
  · rw [show cc + 1 - 1 = cc by omega, hx, show p + (A.length : Int) + 1 = p + ((A.length + 1 : Nat) : Int) by omega]
    exact k1 hd _ _ _ (jl_fs_up hf (Int.le_refl _)) (jw_up_eq _ _ _ _)
theorem jl_pm_bin {b : Bool} (hD : 1 ≤ D) (ha : jl_pm n D e false A) (hb : jl_pm n D e false B) (o2 : 2 ≤ o) (o9 : o ≤ 9) (hbo : b = true → 7 ≤ o) : jl_pm n D e b (A ++ B ++ [(o, 0)]) := by
  obtain ⟨da, x, la, rx, -, va, ma⟩ := ha
  obtain ⟨db, y, lb, ry, -, vb, mb⟩ := hb
  have lab : 1 ≤ (A ++ B ++ [(o, (0 : Int))]).length := by rw [List.length_append, List.length_append]; omega
  have hrk := jl_rk_rg (o := o) (x := x) (y := y)
  have hbb : b = true → jl_rk o x y = 0 ∨ jl_rk o x y = 1 := fun h => by
    have := hbo h
    unfold jl_rk
    rw [if_neg (by omega), if_neg (by omega), if_neg (by omega), if_neg (by omega), if_neg (by omega)]
    repeat' split
    all_goals first | exact .inl rfl | exact .inr rfl
  have key : ∀ d : Prop, (d ↔ da ∨ db ∨ ((o = 5 ∨ o = 6) ∧ y = 0)) → jl_mv n D e (A ++ B ++ [(o, 0)]) d (jl_rk o x y) := by
    intro d hd σ Q fr to p cc r6 r7 hp hl ht hc hcl hcs he k0 k1
    simp only [List.length_append, List.length_singleton] at hl hcl k1
    have hcA := jl_cs_l (jl_cs_l hcs)
    have hcB := jl_cs_r (jl_cs_l hcs)
    have hcO := jl_cs_r hcs
    rw [List.length_append] at hcO
    refine ma σ Q fr to p cc r6 r7 hp (by omega) ht hc (by omega) hcA he (fun w => k0 (hd.mpr (.inl w))) (fun na σ1 y6 y7 f1 hx => ?_)
    refine mb σ1 Q fr to (p + (A.length : Int)) (cc + 1) y6 y7 (by omega) (by omega) ht (by omega) (by omega) (jl_cs_fr hcB (f1.1 114 (by omega))) (fun j j0 j1 => by rw [f1.1 120 (by omega)]; exact he j j0 j1) (fun w σ' f2 => k0 (hd.mpr (.inr (.inl w))) σ' (jl_fs_tr f1 f2 (by omega))) (fun nb σ2 z6 z7 f2 hy => ?_)
    have f12 := jl_fs_tr f1 f2 (show cc ≤ cc + 1 by omega)
    have hw := (jl_cs_c (jl_cs_fr hcO (f12.1 114 (by omega)))).1
    rw [show p + ((A.length + B.length : Nat) : Int) = p + (A.length : Int) + (B.length : Int) by omega] at hw
    have hx2 : σ2 119 (cc + 1 + 1 - 1 - 1) = x := by rw [show cc + 1 + 1 - 1 - 1 = cc by omega, f2.2 cc (by omega), hx]
    have hy2 : σ2 119 (cc + 1 + 1 - 1) = y := by rw [show cc + 1 + 1 - 1 = cc + 1 by omega]; exact hy
    refine jl_st_bin (o := o) (by omega) (by omega) (v := 0) (hw.trans ?_) (by omega) (by omega) hD ⟨o2, o9⟩ (by omega) (by rw [hx2]; exact rx) (by rw [hy2]; exact ry) (fun w1 w2 => k0 (hd.mpr (.inr (.inr ⟨w1, by rw [← hy2]; exact w2⟩))) σ2 f12) (fun w => ?_)
    · unfold jl_wd
      rw [if_neg (by omega)]
    · rw [hx2, hy2, show cc + 1 + 1 - 1 - 1 = cc by omega, show cc + 1 + 1 - 1 = cc + 1 by omega, show p + (A.length : Int) + (B.length : Int) + 1 = p + ((A.length + B.length + 1 : Nat) : Int) by omega]
      refine k1 (fun q => ?_) _ _ _ (jl_fs_up f12 (Int.le_refl _)) (jw_up_eq _ _ _ _)
      rcases hd.mp q with q | q | q
      · exact na q
      · exact nb q
      · exact w ⟨q.1, by rw [hy2]; exact q.2⟩
  by_cases h5 : o = 5 ∨ o = 6
  · refine ⟨_, _, lab, hrk, hbb, jl_val_div va vb h5, key _ ?_⟩
    simp only [h5, true_and]
  · refine ⟨_, _, lab, hrk, hbb, jl_val_bin va vb ⟨o2, o9⟩ (by omega), key _ ?_⟩
    simp only [h5, false_and, or_false]
theorem jl_pm_and (hD : 1 ≤ D) (ha : jl_pm n D e true A) (hb : jl_pm n D e true B) : jl_pm n D e true (A ++ (11, (B.length : Int)) :: B) := by
  obtain ⟨da, x, la, rx, bx, va, ma⟩ := ha
  obtain ⟨db, y, lb, ry, by', vb, mb⟩ := hb
  have hbx := bx rfl
  have hby := by' rfl
  refine ⟨_, _, by rw [List.length_append]; omega, ?_, ?_, jl_val_and va (fun _ => vb), fun σ Q fr to p cc r6 r7 hp hl ht hc hcl hcs he k0 k1 => ?_⟩
  · unfold jw_rg
    split <;> omega
  · intro _
    split <;> omega
  simp only [List.length_append, List.length_cons] at hl hcl k1
  have hcA := jl_cs_l hcs
  have hcO := jl_cs_c (jl_cs_r hcs)
  refine ma σ Q fr to p cc r6 r7 hp (by omega) ht hc (by omega) hcA he (fun w => k0 (.inl w)) (fun na σ1 y6 y7 f1 hx => ?_)
  have hw : σ1 114 (p + (A.length : Int)) = jl_wd (11, (B.length : Int)) (p + (A.length : Int)) := by rw [f1.1 114 (by omega)]; exact hcO.1
  have hx2 : σ1 119 (cc + 1 - 1) = x := by rw [show cc + 1 - 1 = cc by omega]; exact hx
  refine jl_st_and (by omega) (by omega) (v := p + (A.length : Int) + 1 + (B.length : Int)) (hw.trans ?_) (by omega) (by omega) hD (by omega) (by rw [hx2]; exact rx) (fun h => ?_) (fun h => ?_)
  · unfold jl_wd
    rw [if_pos (by omega)]
  · rw [hx2] at h
    rw [show (0 : Int) + (p + (A.length : Int) + 1 + (B.length : Int)) = p + ((A.length + (B.length + 1) : Nat) : Int) by omega]
    exact k1 (fun q => q.elim na (fun w => w.1 h)) _ _ _ f1 (by rw [if_pos h, hx, h])
  · rw [hx2] at h
    rw [show cc + 1 - 1 = cc by omega]
    refine mb σ1 Q fr to (p + (A.length : Int) + 1) cc _ _ (by omega) (by omega) ht (by omega) (by omega) (jl_cs_fr hcO.2 (f1.1 114 (by omega))) (fun j j0 j1 => by rw [f1.1 120 (by omega)]; exact he j j0 j1) (fun w σ' f2 => k0 (.inr ⟨h, w⟩) σ' (jl_fs_tr f1 f2 (by omega))) (fun nb σ2 z6 z7 f2 hy => ?_)
    rw [show p + (A.length : Int) + 1 + (B.length : Int) = p + ((A.length + (B.length + 1) : Nat) : Int) by omega]
    exact k1 (fun q => q.elim na (fun w => nb w.2)) _ _ _ (jl_fs_tr f1 f2 (by omega)) (by rw [if_neg h]; exact hy)
theorem jl_pm_or (hD : 1 ≤ D) (ha : jl_pm n D e true A) (hb : jl_pm n D e true B) : jl_pm n D e true (A ++ (12, (B.length : Int)) :: B) := by
  obtain ⟨da, x, la, rx, bx, va, ma⟩ := ha
  obtain ⟨db, y, lb, ry, by', vb, mb⟩ := hb
  have hbx := bx rfl
  have hby := by' rfl
  refine ⟨_, _, by rw [List.length_append]; omega, ?_, ?_, jl_val_or va (fun _ => vb), fun σ Q fr to p cc r6 r7 hp hl ht hc hcl hcs he k0 k1 => ?_⟩
  · unfold jw_rg
    split <;> omega
  · intro _
    split <;> omega
  simp only [List.length_append, List.length_cons] at hl hcl k1
  have hcA := jl_cs_l hcs
  have hcO := jl_cs_c (jl_cs_r hcs)
  refine ma σ Q fr to p cc r6 r7 hp (by omega) ht hc (by omega) hcA he (fun w => k0 (.inl w)) (fun na σ1 y6 y7 f1 hx => ?_)
  have hw : σ1 114 (p + (A.length : Int)) = jl_wd (12, (B.length : Int)) (p + (A.length : Int)) := by rw [f1.1 114 (by omega)]; exact hcO.1
  have hx2 : σ1 119 (cc + 1 - 1) = x := by rw [show cc + 1 - 1 = cc by omega]; exact hx
  refine jl_st_or (by omega) (by omega) (v := p + (A.length : Int) + 1 + (B.length : Int)) (hw.trans ?_) (by omega) (by omega) hD (by omega) (by rw [hx2]; exact rx) (fun h => ?_) (fun h => ?_)
  · unfold jl_wd
    rw [if_pos (by omega)]
  · rw [hx2] at h
    rw [show (0 : Int) + (p + (A.length : Int) + 1 + (B.length : Int)) = p + ((A.length + (B.length + 1) : Nat) : Int) by omega]
    exact k1 (fun q => q.elim na (fun w => w.1 h)) _ _ _ f1 (by rw [if_pos h, hx, h])
  · rw [hx2] at h
    rw [show cc + 1 - 1 = cc by omega]
    refine mb σ1 Q fr to (p + (A.length : Int) + 1) cc _ _ (by omega) (by omega) ht (by omega) (by omega) (jl_cs_fr hcO.2 (f1.1 114 (by omega))) (fun j j0 j1 => by rw [f1.1 120 (by omega)]; exact he j j0 j1) (fun w σ' f2 => k0 (.inr ⟨h, w⟩) σ' (jl_fs_tr f1 f2 (by omega))) (fun nb σ2 z6 z7 f2 hy => ?_)
    rw [show p + (A.length : Int) + 1 + (B.length : Int) = p + ((A.length + (B.length + 1) : Nat) : Int) by omega]
    exact k1 (fun q => q.elim na (fun w => nb w.2)) _ _ _ (jl_fs_tr f1 f2 (by omega)) (by rw [if_neg h]; exact hy)
/-- all codes of the grammar run so -/
theorem jl_pm_all {b : Bool} {c : List (Int × Int)} (hD : 1 ≤ D) (he : ∀ j, 0 ≤ j → j < 7 → jw_rg (e j)) (h : jl_gd b c) : jl_pm n D e b c :=
  h (jl_pm n D e) (fun _ h0 h1 => jl_pm_num hD h0 h1) (fun _ h0 h1 => jl_pm_let hD he h0 h1) (fun _ _ _ ha hb h2 h6 => jl_pm_bin hD ha hb h2 (by omega) (fun h => Bool.noConfusion h)) (fun _ _ _ ha hb h7 h9 => jl_pm_bin hD ha hb (by omega) h9 (fun _ => h7)) (fun _ ha => jl_pm_not hD ha) (fun _ _ ha hb => jl_pm_and hD ha hb) (fun _ _ ha hb => jl_pm_or hD ha hb)
end JLM

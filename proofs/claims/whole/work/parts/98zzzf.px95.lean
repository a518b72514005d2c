/-! ===== the problem's text, purely: lines ===== -/
/-- what was read: 0 0 fault, 0 1 place, 0 2 quantities, 0 3 wishes, 0 4 what is kept, 0 5 boxes told; 1 wishes' rows, 2 rows kept, 3 their numbers, 4 their kinds, 5 boxes -/
def jk_mk (F at' q ws ks bx : Int) (W K N D B : Int → Int) : jw_H := fun c j => if c = 0 then (if j = 0 then F else if j = 1 then at' else if j = 2 then q else if j = 3 then ws else if j = 4 then ks else bx) else if c = 1 then W j else if c = 2 then K j else if c = 3 then N j else if c = 4 then D j else B j
def jk_bad (F : Int) : jw_H := jk_mk F 0 0 0 0 0 (fun _ => 0) (fun _ => 0) (fun _ => 0) (fun _ => 0) (fun _ => 0)
noncomputable def jk_nu (b : Int → Int) (m i : Int) : Int × Int × Int := @ite _ ((jk_n2 b m i).1 = 0 ∧ jk_dg (jk_h b m (jk_n2 b m i).2.2)) (Classical.propDecidable _) (-1000 * 2 - (jk_n2 b m i).2.2, 0, i) (jk_n2 b m i)
/-- keep: what stands behind the colon -/
noncomputable def jk_pk (b : Int → Int) (m : Int) (s : jw_H) (i : Int) : jw_H :=
  if (jk_sm b m (s 0 2) i).1 ≠ 0 then jk_bad (jk_sm b m (s 0 2) i).1
  else if ¬ (jk_h b m (jk_sm b m (s 0 2) i).2.1 = 60 ∨ jk_h b m (jk_sm b m (s 0 2) i).2.1 = 62) then jk_bad (-1000 * 1 - (jk_sm b m (s 0 2) i).2.1)
  else if (jk_nu b m ((jk_sm b m (s 0 2) i).2.1 + 1)).1 ≠ 0 then jk_bad (jk_nu b m ((jk_sm b m (s 0 2) i).2.1 + 1)).1
  else jk_mk 0 (jk_nu b m ((jk_sm b m (s 0 2) i).2.1 + 1)).2.2 (s 0 2) (s 0 3) (s 0 4 + 1) (s 0 5) (s 1) (fun j => if j < 3 * s 0 4 then s 2 j else (jk_sm b m (s 0 2) i).2.2 (j - 3 * s 0 4)) (fun j => if j = s 0 4 then (jk_nu b m ((jk_sm b m (s 0 2) i).2.1 + 1)).2.1 else s 3 j) (fun j => if j = s 0 4 then jk_h b m (jk_sm b m (s 0 2) i).2.1 / 2 - 30 else s 4 j) (s 5)
/-- wish, least -/
noncomputable def jk_pw (b : Int → Int) (m sg : Int) (s : jw_H) (i : Int) : jw_H :=
  if (jk_sm b m (s 0 2) i).1 ≠ 0 then jk_bad (jk_sm b m (s 0 2) i).1
  else jk_mk 0 (jk_sm b m (s 0 2) i).2.1 (s 0 2) (s 0 3 + 1) (s 0 4) (s 0 5) (fun j => if j < 3 * s 0 3 then s 1 j else sg * (jk_sm b m (s 0 2) i).2.2 (j - 3 * s 0 3)) (s 2) (s 3) (s 4) (s 5)
/-- box -/
noncomputable def jk_pbx (b : Int → Int) (m : Int) (s : jw_H) (i : Int) : jw_H :=
  @ite _ (¬ jk_let (jk_h b m i)) (Classical.propDecidable _) (jk_bad (-1000 * 1 - i))
  (if ¬ (jk_h b m i - 120 < s 0 2) then jk_bad (-1000 * 7 - i)
  else if jw_and (s 0 5) (jw_shl 1 (jk_h b m i - 120)) ≠ 0 then jk_bad (-1000 * 6 - i)
  else if jk_h b m (i + 1) ≠ 60 then jk_bad (-1000 * 1 - (i + 1))
  else if (jk_nu b m (i + 2)).1 ≠ 0 then jk_bad (jk_nu b m (i + 2)).1
  else if ¬ (1 ≤ (jk_nu b m (i + 2)).2.1 ∧ (jk_nu b m (i + 2)).2.1 ≤ 9) then jk_bad (-1000 * 3 - (i + 2))
  else jk_mk 0 (jk_nu b m (i + 2)).2.2 (s 0 2) (s 0 3) (s 0 4) (jw_or (s 0 5) (jw_shl 1 (jk_h b m i - 120))) (s 1) (s 2) (s 3) (s 4) (fun j => if j = jk_h b m i - 120 then (jk_nu b m (i + 2)).2.1 else s 5 j))
/-- of -/
noncomputable def jk_po (b : Int → Int) (m : Int) (s : jw_H) (i : Int) : jw_H :=
  if ¬ (49 ≤ jk_h b m i ∧ jk_h b m i ≤ 51) then jk_bad (-1000 * 1 - i)
  else jk_mk 0 (i + 1) (jk_h b m i - 48) (s 0 3) (s 0 4) (s 0 5) (s 1) (s 2) (s 3) (s 4) (s 5)
/-- a line from a place on: 1 the first, 0 another -/
noncomputable def jk_pl (b : Int → Int) (m first : Int) (s : jw_H) (i : Int) : jw_H :=
  if jk_wk b i (jk_we b m 300 i) = 0 ∨ ¬ (jk_wk b i (jk_we b m 300 i) = 1 ↔ first = 1) then jk_bad (-1000 * 1 - i)
  else if ((jk_wk b i (jk_we b m 300 i) = 2 ∨ jk_wk b i (jk_we b m 300 i) = 3) ∧ 3 ≤ s 0 3) ∨ (jk_wk b i (jk_we b m 300 i) = 4 ∧ 4 ≤ s 0 4) then jk_bad (-1000 * 4 - i)
  else if jk_h b m (jk_we b m 300 i) ≠ 58 then jk_bad (-1000 * 1 - jk_we b m 300 i)
  else if jk_wk b i (jk_we b m 300 i) = 1 then jk_po b m s (jk_we b m 300 i + 1)
  else if jk_wk b i (jk_we b m 300 i) = 4 then jk_pk b m s (jk_we b m 300 i + 1)
  else if jk_wk b i (jk_we b m 300 i) = 5 then jk_pbx b m s (jk_we b m 300 i + 1)
  else jk_pw b m (if jk_wk b i (jk_we b m 300 i) = 3 then -1 else 1) s (jk_we b m 300 i + 1)
/-- the lines behind the first -/
noncomputable def jk_pr (b : Int → Int) (m : Int) : Nat → jw_H → jw_H
  | 0, s => s
  | f + 1, s => if s 0 0 = 0 ∧ s 0 1 < m then (if jk_h b m (s 0 1) ≠ 59 then jk_bad (-1000 * 1 - s 0 1) else jk_pr b m f (jk_pl b m 0 s (s 0 1 + 1))) else s
def jk_s0 : jw_H := jk_mk 0 0 1 0 0 0 (fun _ => 0) (fun _ => 0) (fun _ => 0) (fun _ => 0) (fun _ => 9)
/-- the whole text -/
noncomputable def jk_ptx (b : Int → Int) (m : Int) : jw_H := jk_pr b m 300 (jk_pl b m 1 jk_s0 0)
section JKP
variable {b : Int → Int} {m i sg first : Int} {s : jw_H}
theorem jk_nu_1 (h : (jk_n2 b m i).1 ≠ 0) : jk_nu b m i = jk_n2 b m i := if_neg (fun hh => h hh.1)
theorem jk_nu_2 (h : (jk_n2 b m i).1 = 0) (hd : jk_dg (jk_h b m (jk_n2 b m i).2.2)) : jk_nu b m i = (-1000 * 2 - (jk_n2 b m i).2.2, 0, i) := if_pos ⟨h, hd⟩
theorem jk_nu_3 (hd : ¬ jk_dg (jk_h b m (jk_n2 b m i).2.2)) : jk_nu b m i = jk_n2 b m i := if_neg (fun hh => hd hh.2)
theorem jk_pk_1 (h : (jk_sm b m (s 0 2) i).1 ≠ 0) : jk_pk b m s i = jk_bad (jk_sm b m (s 0 2) i).1 := if_pos h
theorem jk_pk_2 (h : (jk_sm b m (s 0 2) i).1 = 0) (h2 : ¬ (jk_h b m (jk_sm b m (s 0 2) i).2.1 = 60 ∨ jk_h b m (jk_sm b m (s 0 2) i).2.1 = 62)) : jk_pk b m s i = jk_bad (-1000 * 1 - (jk_sm b m (s 0 2) i).2.1) := by
  unfold jk_pk
  rw [if_neg (not_not_intro h), if_pos h2]
theorem jk_pk_3 (h : (jk_sm b m (s 0 2) i).1 = 0) (h2 : jk_h b m (jk_sm b m (s 0 2) i).2.1 = 60 ∨ jk_h b m (jk_sm b m (s 0 2) i).2.1 = 62) (h3 : (jk_nu b m ((jk_sm b m (s 0 2) i).2.1 + 1)).1 ≠ 0) : jk_pk b m s i = jk_bad (jk_nu b m ((jk_sm b m (s 0 2) i).2.1 + 1)).1 := by
  unfold jk_pk
  rw [if_neg (not_not_intro h), if_neg (not_not_intro h2), if_pos h3]
theorem jk_pk_4 (h : (jk_sm b m (s 0 2) i).1 = 0) (h2 : jk_h b m (jk_sm b m (s 0 2) i).2.1 = 60 ∨ jk_h b m (jk_sm b m (s 0 2) i).2.1 = 62) (h3 : (jk_nu b m ((jk_sm b m (s 0 2) i).2.1 + 1)).1 = 0) : jk_pk b m s i = jk_mk 0 (jk_nu b m ((jk_sm b m (s 0 2) i).2.1 + 1)).2.2 (s 0 2) (s 0 3) (s 0 4 + 1) (s 0 5) (s 1) (fun j => if j < 3 * s 0 4 then s 2 j else (jk_sm b m (s 0 2) i).2.2 (j - 3 * s 0 4)) (fun j => if j = s 0 4 then (jk_nu b m ((jk_sm b m (s 0 2) i).2.1 + 1)).2.1 else s 3 j) (fun j => if j = s 0 4 then jk_h b m (jk_sm b m (s 0 2) i).2.1 / 2 - 30 else s 4 j) (s 5) := by
  unfold jk_pk
  rw [if_neg (not_not_intro h), if_neg (not_not_intro h2), if_neg (not_not_intro h3)]
theorem jk_pw_1 (h : (jk_sm b m (s 0 2) i).1 ≠ 0) : jk_pw b m sg s i = jk_bad (jk_sm b m (s 0 2) i).1 := if_pos h
theorem jk_pw_2 (h : (jk_sm b m (s 0 2) i).1 = 0) : jk_pw b m sg s i = jk_mk 0 (jk_sm b m (s 0 2) i).2.1 (s 0 2) (s 0 3 + 1) (s 0 4) (s 0 5) (fun j => if j < 3 * s 0 3 then s 1 j else sg * (jk_sm b m (s 0 2) i).2.2 (j - 3 * s 0 3)) (s 2) (s 3) (s 4) (s 5) := if_neg (not_not_intro h)
theorem jk_pbx_1 (h : ¬ jk_let (jk_h b m i)) : jk_pbx b m s i = jk_bad (-1000 * 1 - i) := if_pos h
theorem jk_pbx_2 (h : jk_let (jk_h b m i)) (h2 : ¬ (jk_h b m i - 120 < s 0 2)) : jk_pbx b m s i = jk_bad (-1000 * 7 - i) := by
  unfold jk_pbx
  rw [if_neg (not_not_intro h), if_pos h2]
theorem jk_pbx_3 (h : jk_let (jk_h b m i)) (h2 : jk_h b m i - 120 < s 0 2) (h3 : jw_and (s 0 5) (jw_shl 1 (jk_h b m i - 120)) ≠ 0) : jk_pbx b m s i = jk_bad (-1000 * 6 - i) := by
  unfold jk_pbx
  rw [if_neg (not_not_intro h), if_neg (not_not_intro h2), if_pos h3]
theorem jk_pbx_4 (h : jk_let (jk_h b m i)) (h2 : jk_h b m i - 120 < s 0 2) (h3 : jw_and (s 0 5) (jw_shl 1 (jk_h b m i - 120)) = 0) (h4 : jk_h b m (i + 1) ≠ 60) : jk_pbx b m s i = jk_bad (-1000 * 1 - (i + 1)) := by
  unfold jk_pbx
  rw [if_neg (not_not_intro h), if_neg (not_not_intro h2), if_neg (not_not_intro h3), if_pos h4]
theorem jk_pbx_5 (h : jk_let (jk_h b m i)) (h2 : jk_h b m i - 120 < s 0 2) (h3 : jw_and (s 0 5) (jw_shl 1 (jk_h b m i - 120)) = 0) (h4 : jk_h b m (i + 1) = 60) (h5 : (jk_nu b m (i + 2)).1 ≠ 0) : jk_pbx b m s i = jk_bad (jk_nu b m (i + 2)).1 := by
  unfold jk_pbx
  rw [if_neg (not_not_intro h), if_neg (not_not_intro h2), if_neg (not_not_intro h3), if_neg (not_not_intro h4), if_pos h5]
theorem jk_pbx_6 (h : jk_let (jk_h b m i)) (h2 : jk_h b m i - 120 < s 0 2) (h3 : jw_and (s 0 5) (jw_shl 1 (jk_h b m i - 120)) = 0) (h4 : jk_h b m (i + 1) = 60) (h5 : (jk_nu b m (i + 2)).1 = 0) (h6 : ¬ (1 ≤ (jk_nu b m (i + 2)).2.1 ∧ (jk_nu b m (i + 2)).2.1 ≤ 9)) : jk_pbx b m s i = jk_bad (-1000 * 3 - (i + 2)) := by
  unfold jk_pbx
  rw [if_neg (not_not_intro h), if_neg (not_not_intro h2), if_neg (not_not_intro h3), if_neg (not_not_intro h4), if_neg (not_not_intro h5), if_pos h6]
theorem jk_pbx_7 (h : jk_let (jk_h b m i)) (h2 : jk_h b m i - 120 < s 0 2) (h3 : jw_and (s 0 5) (jw_shl 1 (jk_h b m i - 120)) = 0) (h4 : jk_h b m (i + 1) = 60) (h5 : (jk_nu b m (i + 2)).1 = 0) (h6 : 1 ≤ (jk_nu b m (i + 2)).2.1 ∧ (jk_nu b m (i + 2)).2.1 ≤ 9) : jk_pbx b m s i = jk_mk 0 (jk_nu b m (i + 2)).2.2 (s 0 2) (s 0 3) (s 0 4) (jw_or (s 0 5) (jw_shl 1 (jk_h b m i - 120))) (s 1) (s 2) (s 3) (s 4) (fun j => if j = jk_h b m i - 120 then (jk_nu b m (i + 2)).2.1 else s 5 j) := by
  unfold jk_pbx
  rw [if_neg (not_not_intro h), if_neg (not_not_intro h2), if_neg (not_not_intro h3), if_neg (not_not_intro h4), if_neg (not_not_intro h5), if_neg (not_not_intro h6)]
theorem jk_po_1 (h : ¬ (49 ≤ jk_h b m i ∧ jk_h b m i ≤ 51)) : jk_po b m s i = jk_bad (-1000 * 1 - i) := if_pos h
theorem jk_po_2 (h : 49 ≤ jk_h b m i ∧ jk_h b m i ≤ 51) : jk_po b m s i = jk_mk 0 (i + 1) (jk_h b m i - 48) (s 0 3) (s 0 4) (s 0 5) (s 1) (s 2) (s 3) (s 4) (s 5) := if_neg (not_not_intro h)
theorem jk_pl_1 {c e : Int} (he : jk_we b m 300 i = e) (hc : jk_wk b i e = c) (h : c = 0 ∨ ¬ (c = 1 ↔ first = 1)) : jk_pl b m first s i = jk_bad (-1000 * 1 - i) := by
  unfold jk_pl
  rw [he, hc, if_pos h]
theorem jk_pl_2 {c e : Int} (he : jk_we b m 300 i = e) (hc : jk_wk b i e = c) (h : ¬ (c = 0 ∨ ¬ (c = 1 ↔ first = 1))) (h2 : ((c = 2 ∨ c = 3) ∧ 3 ≤ s 0 3) ∨ (c = 4 ∧ 4 ≤ s 0 4)) : jk_pl b m first s i = jk_bad (-1000 * 4 - i) := by
  unfold jk_pl
  rw [he, hc, if_neg h, if_pos h2]
theorem jk_pl_3 {c e : Int} (he : jk_we b m 300 i = e) (hc : jk_wk b i e = c) (h : ¬ (c = 0 ∨ ¬ (c = 1 ↔ first = 1))) (h2 : ¬ (((c = 2 ∨ c = 3) ∧ 3 ≤ s 0 3) ∨ (c = 4 ∧ 4 ≤ s 0 4))) (h3 : jk_h b m e ≠ 58) : jk_pl b m first s i = jk_bad (-1000 * 1 - e) := by
  unfold jk_pl
  rw [he, hc, if_neg h, if_neg h2, if_pos h3]
theorem jk_pl_4 {c e : Int} (he : jk_we b m 300 i = e) (hc : jk_wk b i e = c) (h : ¬ (c = 0 ∨ ¬ (c = 1 ↔ first = 1))) (h2 : ¬ (((c = 2 ∨ c = 3) ∧ 3 ≤ s 0 3) ∨ (c = 4 ∧ 4 ≤ s 0 4))) (h3 : jk_h b m e = 58) : jk_pl b m first s i = if c = 1 then jk_po b m s (e + 1) else if c = 4 then jk_pk b m s (e + 1) else if c = 5 then jk_pbx b m s (e + 1) else jk_pw b m (if c = 3 then -1 else 1) s (e + 1) := by
  unfold jk_pl
  rw [he, hc, if_neg h, if_neg h2, if_neg (not_not_intro h3)]
theorem jk_pr_no (h : ¬ (s 0 0 = 0 ∧ s 0 1 < m)) : ∀ f, jk_pr b m f s = s
  | 0 => rfl
  | f + 1 => if_neg h
theorem jk_pr_bad (h : s 0 0 = 0 ∧ s 0 1 < m) (h2 : jk_h b m (s 0 1) ≠ 59) (f : Nat) : jk_pr b m (f + 1) s = jk_bad (-1000 * 1 - s 0 1) := (if_pos h).trans (if_pos h2)
theorem jk_pr_go (h : s 0 0 = 0 ∧ s 0 1 < m) (h2 : jk_h b m (s 0 1) = 59) (f : Nat) : jk_pr b m (f + 1) s = jk_pr b m f (jk_pl b m 0 s (s 0 1 + 1)) := (if_pos h).trans (if_neg (not_not_intro h2))
theorem jk_wk_rg (b : Int → Int) (s e : Int) : 0 ≤ jk_wk b s e ∧ jk_wk b s e ≤ 5 := by
  unfold jk_wk
  repeat' split
  all_goals omega
end JKP
/-- the class's store holds what was read -/
def jk_rl (o : Nat) (σ s : jw_H) : Prop := σ 34 2 = 0 ∧ s 0 0 = 0 ∧ σ 34 0 = s 0 1 ∧ σ o 0 = s 0 2 ∧ σ o 1 = s 0 3 ∧ σ o 2 = s 0 4 ∧ σ 33 1 = s 0 5 ∧ (∀ j, 0 ≤ j → j < 3 * s 0 3 → σ (o + 1) j = s 1 j) ∧ (∀ j, 0 ≤ j → j < 3 * s 0 4 → σ (o + 2) j = s 2 j) ∧ (∀ j, 0 ≤ j → j < s 0 4 → σ (o + 3) j = s 3 j ∧ σ (o + 4) j = s 4 j) ∧ ∀ j, 0 ≤ j → j < 3 → σ (o + 5) j = s 5 j
def jk_rs (o : Nat) (σ s : jw_H) : Prop := σ 34 2 = s 0 0 ∧ (s 0 0 = 0 → jk_rl o σ s)
theorem jk_rs_bad {o : Nat} {σ : jw_H} {F : Int} (h : σ 34 2 = F) (hF : F ≠ 0) : jk_rs o σ (jk_bad F) := ⟨h, fun e => absurd e hF⟩
/-- the reference's store holds what was read -/
def jk_ml (σ s : jw_H) : Prop := s 0 0 = 0 ∧ σ 103 8 = s 0 1 ∧ σ 103 34 = s 0 2 ∧ σ 103 35 = s 0 3 ∧ σ 103 36 = s 0 4 ∧ σ 103 37 = s 0 5 ∧ (∀ j, 0 ≤ j → j < 3 * s 0 3 → σ 121 j = s 1 j) ∧ (∀ k, 0 ≤ k → k < s 0 4 → (∀ j, 0 ≤ j → j < 3 → σ 122 (5 * k + j) = s 2 (3 * k + j)) ∧ σ 122 (5 * k + 3) = s 3 k ∧ σ 122 (5 * k + 4) = s 4 k) ∧ ∀ j, 0 ≤ j → j < 3 → σ 123 j = s 5 j

/-! ===== the law, purely: texts as codes, what codes come to ===== -/
/-- fault, place behind, codes -/
abbrev jl_R : Type := Int × Int × List (Int × Int)
def jl_num (b : Int → Int) (m : Int) : Nat → Int → Int → Int × Int
  | 0, i, a => (a, i)
  | k + 1, i, a => if 48 ≤ jk_h b m i ∧ jk_h b m i ≤ 57 then jl_num b m k (i + 1) (10 * a + jk_h b m i - 48) else (a, i)
def jl_atom (b : Int → Int) (m i : Int) : jl_R :=
  if 48 ≤ jk_h b m i ∧ jk_h b m i ≤ 57 then (if 48 ≤ jk_h b m (jl_num b m 5 i 0).2 ∧ jk_h b m (jl_num b m 5 i 0).2 ≤ 57 then (-1000 * 2 - (jl_num b m 5 i 0).2, i, []) else (0, (jl_num b m 5 i 0).2, [(0, (jl_num b m 5 i 0).1)]))
  else if jl_fact (jk_h b m i) < 0 then (-1000 * 1 - i, i, []) else (0, i + 1, [(1, jl_fact (jk_h b m i))])
/-- a factor; G: a sum one deeper, k: how many may be opened yet -/
def jl_fac (b : Int → Int) (m : Int) (G : Int → jl_R) (k : Nat) (i : Int) : jl_R :=
  if jk_h b m i = 91 then (if k = 0 then (-1000 * 5 - i, i, []) else if (G (i + 1)).1 ≠ 0 then ((G (i + 1)).1, i, []) else if jk_h b m (G (i + 1)).2.1 = 93 then (0, (G (i + 1)).2.1 + 1, (G (i + 1)).2.2) else (-1000 * 1 - (G (i + 1)).2.1, i, []))
  else jl_atom b m i
def jl_tim (x : Int) : Int := if x = 42 then 4 else if x = 47 then 5 else if x = 37 then 6 else 0
def jl_sgn (x : Int) : Int := if x = 43 then 2 else if x = 45 then 3 else 0
def jl_com (x : Int) : Int := if x = 60 then 7 else if x = 62 then 8 else if x = 61 then 9 else 0
def jl_prl (b : Int → Int) (m : Int) (G : Int → jl_R) (k : Nat) : Nat → jl_R → jl_R
  | 0, R => R
  | f + 1, R => if R.1 = 0 ∧ jl_tim (jk_h b m R.2.1) ≠ 0 then jl_prl b m G k f ((jl_fac b m G k (R.2.1 + 1)).1, (jl_fac b m G k (R.2.1 + 1)).2.1, R.2.2 ++ (jl_fac b m G k (R.2.1 + 1)).2.2 ++ [(jl_tim (jk_h b m R.2.1), 0)]) else R
def jl_prod (b : Int → Int) (m : Int) (G : Int → jl_R) (k : Nat) (i : Int) : jl_R := jl_prl b m G k 300 (jl_fac b m G k i)
def jl_sml (b : Int → Int) (m : Int) (G : Int → jl_R) (k : Nat) : Nat → jl_R → jl_R
  | 0, R => R
  | f + 1, R => if R.1 = 0 ∧ jl_sgn (jk_h b m R.2.1) ≠ 0 then jl_sml b m G k f ((jl_prod b m G k (R.2.1 + 1)).1, (jl_prod b m G k (R.2.1 + 1)).2.1, R.2.2 ++ (jl_prod b m G k (R.2.1 + 1)).2.2 ++ [(jl_sgn (jk_h b m R.2.1), 0)]) else R
def jl_sumG (b : Int → Int) (m : Int) (G : Int → jl_R) (k : Nat) (i : Int) : jl_R := jl_sml b m G k 300 (jl_prod b m G k i)
/-- a sum where so many may be opened yet -/
def jl_S (b : Int → Int) (m : Int) : Nat → Int → jl_R
  | 0 => jl_sumG b m (fun i => (-1, i, [])) 0
  | k + 1 => jl_sumG b m (jl_S b m k) (k + 1)
def jl_cmp (b : Int → Int) (m : Int) (k : Nat) (i : Int) : jl_R :=
  if (jl_S b m k i).1 ≠ 0 then ((jl_S b m k i).1, i, []) else if jl_com (jk_h b m (jl_S b m k i).2.1) = 0 then (-1000 * 1 - (jl_S b m k i).2.1, i, [])
  else ((jl_S b m k ((jl_S b m k i).2.1 + 1)).1, (jl_S b m k ((jl_S b m k i).2.1 + 1)).2.1, (jl_S b m k i).2.2 ++ (jl_S b m k ((jl_S b m k i).2.1 + 1)).2.2 ++ [(jl_com (jk_h b m (jl_S b m k i).2.1), 0)])
/-- a test; C, T: a condition, a test one deeper -/
def jl_tst (b : Int → Int) (m : Int) (C T : Int → jl_R) (k : Nat) (i : Int) : jl_R :=
  if jk_h b m i = 33 then (if k = 0 then (-1000 * 5 - i, i, []) else ((T (i + 1)).1, (T (i + 1)).2.1, (T (i + 1)).2.2 ++ [(10, 0)]))
  else if jk_h b m i = 40 then (if k = 0 then (-1000 * 5 - i, i, []) else if (C (i + 1)).1 ≠ 0 then ((C (i + 1)).1, i, []) else if jk_h b m (C (i + 1)).2.1 = 41 then (0, (C (i + 1)).2.1 + 1, (C (i + 1)).2.2) else (-1000 * 1 - (C (i + 1)).2.1, i, []))
  else jl_cmp b m k i
def jl_ptl (b : Int → Int) (m : Int) (T : Int → jl_R) : Nat → jl_R → jl_R
  | 0, R => R
  | f + 1, R => if R.1 = 0 ∧ jk_h b m R.2.1 = 38 then jl_ptl b m T f ((T (R.2.1 + 1)).1, (T (R.2.1 + 1)).2.1, R.2.2 ++ (11, ((T (R.2.1 + 1)).2.2.length : Int)) :: (T (R.2.1 + 1)).2.2) else R
def jl_prt (b : Int → Int) (m : Int) (T : Int → jl_R) (i : Int) : jl_R := jl_ptl b m T 300 (T i)
def jl_cdl (b : Int → Int) (m : Int) (T : Int → jl_R) : Nat → jl_R → jl_R
  | 0, R => R
  | f + 1, R => if R.1 = 0 ∧ jk_h b m R.2.1 = 124 then jl_cdl b m T f ((jl_prt b m T (R.2.1 + 1)).1, (jl_prt b m T (R.2.1 + 1)).2.1, R.2.2 ++ (12, ((jl_prt b m T (R.2.1 + 1)).2.2.length : Int)) :: (jl_prt b m T (R.2.1 + 1)).2.2) else R
def jl_cnd (b : Int → Int) (m : Int) (T : Int → jl_R) (i : Int) : jl_R := jl_cdl b m T 300 (jl_prt b m T i)
def jl_T (b : Int → Int) (m : Int) : Nat → Int → jl_R
  | 0 => jl_tst b m (fun i => (-1, i, [])) (fun i => (-1, i, [])) 0
  | k + 1 => jl_tst b m (jl_cnd b m (jl_T b m k)) (jl_T b m k) (k + 1)
/-! what codes come to -/
def jl_rk (o x y : Int) : Int := if o = 2 then jw_n (x + y) else if o = 3 then jw_n (x - y) else if o = 4 then jw_n (x * y) else if o = 5 then jw_div x y else if o = 6 then jw_rem x y else if o = 7 then (if x < y then 1 else 0) else if o = 8 then (if x > y then 1 else 0) else (if x = y then 1 else 0)
def jl_run (e : Int → Int) : List (Int × Int) → Nat → List Int → Option (List Int)
  | [], _, st => some st
  | _ :: c, k + 1, st => jl_run e c k st
  | q :: c, 0, st =>
    if q.1 = 0 then jl_run e c 0 (q.2 :: st)
    else if q.1 = 1 then jl_run e c 0 (e q.2 :: st)
    else if q.1 = 10 then jl_run e c 0 ((1 - st.headD 0) :: st.tail)
    else if q.1 = 11 then (if st.headD 0 = 0 then jl_run e c q.2.toNat st else jl_run e c 0 st.tail)
    else if q.1 = 12 then (if st.headD 0 = 1 then jl_run e c q.2.toNat st else jl_run e c 0 st.tail)
    else if (q.1 = 5 ∨ q.1 = 6) ∧ st.headD 0 = 0 then none
    else jl_run e c 0 (jl_rk q.1 (st.tail.headD 0) (st.headD 0) :: st.tail.tail)
theorem jl_run_skip (e : Int → Int) (r : List (Int × Int)) (st : List Int) : ∀ c : List (Int × Int), jl_run e (c ++ r) c.length st = jl_run e r 0 st
  | [] => rfl
  | _ :: c => jl_run_skip e r st c
/-- these codes leave v, or are refused -/
def jl_val (e : Int → Int) (c : List (Int × Int)) (d : Prop) (v : Int) : Prop := ∀ r st, (d → jl_run e (c ++ r) 0 st = none) ∧ (¬ d → jl_run e (c ++ r) 0 st = jl_run e r 0 (v :: st))
section JLV
variable {e : Int → Int} {A B : List (Int × Int)} {da db : Prop} {x y v o : Int}
theorem jl_val_num : jl_val e [(0, v)] False v := fun _ _ => ⟨fun h => h.elim, fun _ => rfl⟩
theorem jl_val_let : jl_val e [(1, v)] False (e v) := fun _ _ => ⟨fun h => h.elim, fun _ => rfl⟩
theorem jl_val_not (ha : jl_val e A da x) : jl_val e (A ++ [(10, 0)]) da (1 - x) := by
  intro r st
  have h := ha ((10, 0) :: r) st
  rw [List.append_assoc, List.singleton_append]
  exact ⟨h.1, fun hd => (h.2 hd).trans rfl⟩
theorem jl_val_bin (ha : jl_val e A da x) (hb : jl_val e B db y) (ho : 2 ≤ o ∧ o ≤ 9) (h5 : o ≠ 5 ∧ o ≠ 6) : jl_val e (A ++ B ++ [(o, 0)]) (da ∨ db) (jl_rk o x y) := by
  intro r st
  rw [List.append_assoc, List.append_assoc, List.singleton_append]
  have h := ha (B ++ (o, 0) :: r) st
  have k := hb ((o, 0) :: r) (x :: st)
  have s : jl_run e ((o, 0) :: r) 0 (y :: x :: st) = jl_run e r 0 (jl_rk o x y :: st) := by
    show (if o = 0 then _ else if o = 1 then _ else if o = 10 then _ else if o = 11 then _ else if o = 12 then _ else if (o = 5 ∨ o = 6) ∧ _ then _ else _) = _
    rw [if_neg (by omega), if_neg (by omega), if_neg (by omega), if_neg (by omega), if_neg (by omega), if_neg (by omega)]
    rfl
  by_cases d : da
  · exact ⟨fun _ => h.1 d, fun n => absurd (.inl d) n⟩
  · by_cases d2 : db
    · exact ⟨fun _ => (h.2 d).trans (k.1 d2), fun n => absurd (.inr d2) n⟩
    · exact ⟨fun n => n.elim (fun w => absurd w d) (fun w => absurd w d2), fun _ => (h.2 d).trans ((k.2 d2).trans s)⟩
theorem jl_val_div (ha : jl_val e A da x) (hb : jl_val e B db y) (ho : o = 5 ∨ o = 6) : jl_val e (A ++ B ++ [(o, 0)]) (da ∨ db ∨ y = 0) (jl_rk o x y) := by
  intro r st
  rw [List.append_assoc, List.append_assoc, List.singleton_append]
  have h := ha (B ++ (o, 0) :: r) st
  have k := hb ((o, 0) :: r) (x :: st)
  have s : jl_run e ((o, 0) :: r) 0 (y :: x :: st) = if y = 0 then none else jl_run e r 0 (jl_rk o x y :: st) := by
    show (if o = 0 then _ else if o = 1 then _ else if o = 10 then _ else if o = 11 then _ else if o = 12 then _ else if (o = 5 ∨ o = 6) ∧ y = 0 then none else _) = _
    rw [if_neg (by omega), if_neg (by omega), if_neg (by omega), if_neg (by omega), if_neg (by omega)]
    by_cases hy : y = 0
    · rw [if_pos ⟨ho, hy⟩, if_pos hy]
    · rw [if_neg (fun w => hy w.2), if_neg hy]
      rfl
  by_cases d : da
  · exact ⟨fun _ => h.1 d, fun n => absurd (.inl d) n⟩
  · by_cases d2 : db
    · exact ⟨fun _ => (h.2 d).trans (k.1 d2), fun n => absurd (.inr (.inl d2)) n⟩
    · by_cases hy : y = 0
      · exact ⟨fun _ => (h.2 d).trans ((k.2 d2).trans (s.trans (if_pos hy))), fun n => absurd (.inr (.inr hy)) n⟩
      · exact ⟨fun n => n.elim (fun w => absurd w d) (fun w => w.elim (fun w => absurd w d2) (fun w => absurd w hy)), fun _ => (h.2 d).trans ((k.2 d2).trans (s.trans (if_neg hy)))⟩
theorem jl_val_and (ha : jl_val e A da x) (hb : ¬ (x = 0) → jl_val e B db y) : jl_val e (A ++ (11, (B.length : Int)) :: B) (da ∨ (¬ (x = 0) ∧ db)) (if x = 0 then 0 else y) := by
  intro r st
  rw [List.append_assoc, List.cons_append]
  have h := ha ((11, (B.length : Int)) :: (B ++ r)) st
  have s : jl_run e ((11, (B.length : Int)) :: (B ++ r)) 0 (x :: st) = if x = 0 then jl_run e (B ++ r) (B.length : Int).toNat (x :: st) else jl_run e (B ++ r) 0 st := rfl
  rw [Int.toNat_natCast, jl_run_skip] at s
  by_cases d : da
  · exact ⟨fun _ => h.1 d, fun n => absurd (.inl d) n⟩
  · have h2 := (h.2 d).trans s
    by_cases hx : x = 0
    · rw [if_pos hx] at h2 ⊢
      rw [hx] at h2
      exact ⟨fun n => n.elim (fun w => absurd w d) (fun w => absurd hx w.1), fun _ => h2⟩
    · rw [if_neg hx] at h2 ⊢
      have k := hb hx r st
      exact ⟨fun n => n.elim (fun w => absurd w d) (fun w => h2.trans (k.1 w.2)), fun n => h2.trans (k.2 (fun w => n (.inr ⟨hx, w⟩)))⟩
theorem jl_val_or (ha : jl_val e A da x) (hb : ¬ (x = 1) → jl_val e B db y) : jl_val e (A ++ (12, (B.length : Int)) :: B) (da ∨ (¬ (x = 1) ∧ db)) (if x = 1 then 1 else y) := by
  intro r st
  rw [List.append_assoc, List.cons_append]
  have h := ha ((12, (B.length : Int)) :: (B ++ r)) st
  have s : jl_run e ((12, (B.length : Int)) :: (B ++ r)) 0 (x :: st) = if x = 1 then jl_run e (B ++ r) (B.length : Int).toNat (x :: st) else jl_run e (B ++ r) 0 st := rfl
  rw [Int.toNat_natCast, jl_run_skip] at s
  by_cases d : da
  · exact ⟨fun _ => h.1 d, fun n => absurd (.inl d) n⟩
  · have h2 := (h.2 d).trans s
    by_cases hx : x = 1
    · rw [if_pos hx] at h2 ⊢
      rw [hx] at h2
      exact ⟨fun n => n.elim (fun w => absurd w d) (fun w => absurd hx w.1), fun _ => h2⟩
    · rw [if_neg hx] at h2 ⊢
      have k := hb hx r st
      exact ⟨fun n => n.elim (fun w => absurd w d) (fun w => h2.trans (k.1 w.2)), fun n => h2.trans (k.2 (fun w => n (.inr ⟨hx, w⟩)))⟩
end JLV
/-! where things end -/
section JLG
variable {b : Int → Int} {m i : Int} {G : Int → jl_R} {k : Nat}
/-- a good result goes on and stays within the text -/
def jl_ok (m i : Int) (R : jl_R) : Prop := R.1 = 0 → i < R.2.1 ∧ R.2.1 ≤ m
theorem jl_num_in : ∀ (f : Nat) {i a : Int}, 0 ≤ i → i ≤ (jl_num b m f i a).2 ∧ ((jl_num b m f i a).2 = i ∨ (jl_num b m f i a).2 ≤ m) ∧ (jl_num b m f i a).2 ≤ i + f
  | 0, i, a, h => ⟨Int.le_refl _, .inl rfl, by show i ≤ i + ((0 : Nat) : Int); omega⟩
  | f + 1, i, a, h => by
    unfold jl_num
    split
    · rename_i hc
      have hl := jk_h_lt (b := b) (m := m) (i := i) (by omega)
      have := jl_num_in f (i := i + 1) (a := 10 * a + jk_h b m i - 48) (by omega)
      omega
    · exact ⟨Int.le_refl _, .inl rfl, by show i ≤ _; omega⟩
theorem jl_ok_atom (i0 : 0 ≤ i) : jl_ok m i (jl_atom b m i) := by
  intro h
  unfold jl_atom at h ⊢
  by_cases h1 : 48 ≤ jk_h b m i ∧ jk_h b m i ≤ 57
  · rw [if_pos h1] at h ⊢
    have hl := jk_h_lt (b := b) (m := m) (i := i) (by omega)
    have e : jl_num b m 5 i 0 = jl_num b m 4 (i + 1) (10 * 0 + jk_h b m i - 48) := if_pos h1
    have hn := jl_num_in (b := b) (m := m) 4 (i := i + 1) (a := 10 * 0 + jk_h b m i - 48) (by omega)
    rw [← e] at hn
    by_cases h2 : 48 ≤ jk_h b m (jl_num b m 5 i 0).2 ∧ jk_h b m (jl_num b m 5 i 0).2 ≤ 57
    · rw [if_pos h2] at h
      have h3 : -1000 * 2 - (jl_num b m 5 i 0).2 = 0 := h
      omega
    · rw [if_neg h2]
      show i < (jl_num b m 5 i 0).2 ∧ (jl_num b m 5 i 0).2 ≤ m
      omega
  · rw [if_neg h1] at h ⊢
    by_cases h2 : jl_fact (jk_h b m i) < 0
    · rw [if_pos h2] at h
      have h3 : -1000 * 1 - i = 0 := h
      omega
    · rw [if_neg h2]
      have hl := jk_h_lt (b := b) (m := m) (i := i) (fun w => h2 (by rw [w]; decide))
      show i < i + 1 ∧ i + 1 ≤ m
      omega
theorem jl_ok_fac (hG : ∀ i, 0 ≤ i → jl_ok m i (G i)) (i0 : 0 ≤ i) : jl_ok m i (jl_fac b m G k i) := by
  intro h
  unfold jl_fac at h ⊢
  by_cases h1 : jk_h b m i = 91
  · rw [if_pos h1] at h ⊢
    by_cases h2 : k = 0
    · rw [if_pos h2] at h
      have h3 : -1000 * 5 - i = 0 := h
      omega
    · rw [if_neg h2] at h ⊢
      by_cases h4 : (G (i + 1)).1 = 0
      · have hg := hG (i + 1) (by omega) h4
        rw [if_neg (not_not_intro h4)] at h ⊢
        by_cases h5 : jk_h b m (G (i + 1)).2.1 = 93
        · rw [if_pos h5]
          have hl := jk_h_lt (b := b) (m := m) (i := (G (i + 1)).2.1) (by omega)
          show i < (G (i + 1)).2.1 + 1 ∧ (G (i + 1)).2.1 + 1 ≤ m
          omega
        · rw [if_neg h5] at h
          have h3 : -1000 * 1 - (G (i + 1)).2.1 = 0 := h
          omega
      · rw [if_pos h4] at h
        exact absurd h h4
  · rw [if_neg h1] at h ⊢
    exact jl_ok_atom i0 h
theorem jl_ok_prl (hG : ∀ i, 0 ≤ i → jl_ok m i (G i)) (i0 : 0 ≤ i) : ∀ (f : Nat) {R : jl_R}, jl_ok m i R → jl_ok m i (jl_prl b m G k f R)
  | 0, R, h => h
  | f + 1, R, h => by
    unfold jl_prl
    split
    · rename_i hc
      have hr := h hc.1
      refine jl_ok_prl hG i0 f (fun hT => ?_)
      have := jl_ok_fac (b := b) (m := m) (k := k) hG (i := R.2.1 + 1) (by omega) hT
      exact ⟨by show i < (jl_fac b m G k (R.2.1 + 1)).2.1; omega, this.2⟩
    · exact h
theorem jl_ok_prod (hG : ∀ i, 0 ≤ i → jl_ok m i (G i)) (i0 : 0 ≤ i) : jl_ok m i (jl_prod b m G k i) := jl_ok_prl hG i0 300 (jl_ok_fac hG i0)
theorem jl_ok_sml (hG : ∀ i, 0 ≤ i → jl_ok m i (G i)) (i0 : 0 ≤ i) : ∀ (f : Nat) {R : jl_R}, jl_ok m i R → jl_ok m i (jl_sml b m G k f R)
  | 0, R, h => h
  | f + 1, R, h => by
    unfold jl_sml
    split
    · rename_i hc
      have hr := h hc.1
      refine jl_ok_sml hG i0 f (fun hT => ?_)
      have := jl_ok_prod (b := b) (m := m) (k := k) hG (i := R.2.1 + 1) (by omega) hT
      exact ⟨by show i < (jl_prod b m G k (R.2.1 + 1)).2.1; omega, this.2⟩
    · exact h
theorem jl_ok_sumG (hG : ∀ i, 0 ≤ i → jl_ok m i (G i)) (i0 : 0 ≤ i) : jl_ok m i (jl_sumG b m G k i) := jl_ok_sml hG i0 300 (jl_ok_prod hG i0)
end JLG

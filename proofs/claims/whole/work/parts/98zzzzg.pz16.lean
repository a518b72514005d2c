/-! ===== the law's texts read with a stack, purely ===== -/
/-- what waits (kind, place), the last first; codes -/
abbrev jo_C : Type := List (Int × Int)
/-- the signs of sums that are closed -/
def jo_cl (all : Bool) : jo_C → jo_C → jo_C × jo_C
  | [], c => ([], c)
  | q :: W, c => if (4 ≤ q.1 ∧ q.1 ≤ 6) ∨ (all = true ∧ 2 ≤ q.1 ∧ q.1 ≤ 3) then jo_cl all W (c ++ [(q.1, 0)]) else (q :: W, c)
def jo_has (W : jo_C) : Prop := ∃ q, q ∈ W ∧ q.1 = 14
/-- a jump that waited at a place leads to here -/
def jo_put (c : jo_C) (a : Nat) : jo_C := c.set a ((c.getD a (0, 0)).1, (c.length : Int) - (a : Int) - 1)
def jo_ln (all : Bool) : jo_C → jo_C → jo_C × jo_C
  | [], c => ([], c)
  | q :: W, c => if q.1 = 11 ∨ (all = true ∧ q.1 = 12) then jo_ln all W (jo_put c q.2.toNat) else (q :: W, c)
def jo_en : jo_C → jo_C → Int → jo_C × jo_C × Int
  | [], c, o => ([], c, o)
  | q :: W, c, o => if q.1 = 10 then jo_en W (c ++ [(10, 0)]) (o - 1) else (q :: W, c, o)
theorem jo_cl_y {all : Bool} {q : Int × Int} {W c : jo_C} (h : (4 ≤ q.1 ∧ q.1 ≤ 6) ∨ (all = true ∧ 2 ≤ q.1 ∧ q.1 ≤ 3)) : jo_cl all (q :: W) c = jo_cl all W (c ++ [(q.1, 0)]) := if_pos h
theorem jo_cl_n {all : Bool} {q : Int × Int} {W c : jo_C} (h : ¬ ((4 ≤ q.1 ∧ q.1 ≤ 6) ∨ (all = true ∧ 2 ≤ q.1 ∧ q.1 ≤ 3))) : jo_cl all (q :: W) c = (q :: W, c) := if_neg h
theorem jo_ln_y {all : Bool} {q : Int × Int} {W c : jo_C} (h : q.1 = 11 ∨ (all = true ∧ q.1 = 12)) : jo_ln all (q :: W) c = jo_ln all W (jo_put c q.2.toNat) := if_pos h
theorem jo_ln_n {all : Bool} {q : Int × Int} {W c : jo_C} (h : ¬ (q.1 = 11 ∨ (all = true ∧ q.1 = 12))) : jo_ln all (q :: W) c = (q :: W, c) := if_neg h
theorem jo_en_y {q : Int × Int} {W c : jo_C} {o : Int} (h : q.1 = 10) : jo_en (q :: W) c o = jo_en W (c ++ [(10, 0)]) (o - 1) := if_pos h
theorem jo_en_n {q : Int × Int} {W c : jo_C} {o : Int} (h : ¬ q.1 = 10) : jo_en (q :: W) c o = (q :: W, c, o) := if_neg h
theorem jo_cl_tf : ∀ (U : jo_C) {c W c' : jo_C}, jo_cl false U c = (W, c') → jo_cl true U c = jo_cl true W c'
  | [], c, W, c', h => by
    have h1 : ([], c) = (W, c') := h
    obtain ⟨rfl, rfl⟩ := Prod.mk.inj h1
    rfl
  | q :: U, c, W, c', h => by
    by_cases h1 : 4 ≤ q.1 ∧ q.1 ≤ 6
    · rw [jo_cl_y (.inl h1)] at h ⊢
      exact jo_cl_tf U h
    · rw [jo_cl_n (fun w => w.elim h1 (fun w => Bool.noConfusion w.1))] at h
      obtain ⟨rfl, rfl⟩ := Prod.mk.inj h
      rfl
theorem jo_ln_tf : ∀ (U : jo_C) {c W c' : jo_C}, jo_ln false U c = (W, c') → jo_ln true U c = jo_ln true W c'
  | [], c, W, c', h => by
    have h1 : ([], c) = (W, c') := h
    obtain ⟨rfl, rfl⟩ := Prod.mk.inj h1
    rfl
  | q :: U, c, W, c', h => by
    by_cases h1 : q.1 = 11
    · rw [jo_ln_y (.inl h1)] at h ⊢
      exact jo_ln_tf U h
    · rw [jo_ln_n (fun w => w.elim h1 (fun w => Bool.noConfusion w.1))] at h
      obtain ⟨rfl, rfl⟩ := Prod.mk.inj h
      rfl
theorem jo_cl_mem : ∀ (U : jo_C) {all : Bool} {c W c' : jo_C}, jo_cl all U c = (W, c') → ∀ q, q ∈ W → q ∈ U
  | [], all, c, W, c', h => by
    have h1 : ([], c) = (W, c') := h
    obtain ⟨rfl, rfl⟩ := Prod.mk.inj h1
    exact fun q hq => hq
  | q :: U, all, c, W, c', h => by
    by_cases h1 : (4 ≤ q.1 ∧ q.1 ≤ 6) ∨ (all = true ∧ 2 ≤ q.1 ∧ q.1 ≤ 3)
    · rw [jo_cl_y h1] at h
      exact fun r hr => List.mem_cons_of_mem _ (jo_cl_mem U h r hr)
    · rw [jo_cl_n h1] at h
      obtain ⟨rfl, rfl⟩ := Prod.mk.inj h
      exact fun r hr => hr
theorem jo_cl_nil : ∀ (U : jo_C) {all : Bool} {c c' : jo_C}, jo_cl all U c = ([], c') → ¬ jo_has U
  | [], all, c, c', h => by
    rintro ⟨q, hq, -⟩
    exact absurd hq List.not_mem_nil
  | q :: U, all, c, c', h => by
    by_cases h1 : (4 ≤ q.1 ∧ q.1 ≤ 6) ∨ (all = true ∧ 2 ≤ q.1 ∧ q.1 ≤ 3)
    · rw [jo_cl_y h1] at h
      have ih := jo_cl_nil U h
      rintro ⟨r, hr, h14⟩
      rcases List.mem_cons.mp hr with rfl | hr
      · omega
      · exact ih ⟨r, hr, h14⟩
    · rw [jo_cl_n h1] at h
      have := congrArg (fun z => z.1.length) h
      exact absurd this (Nat.succ_ne_zero _)
theorem jo_put_at (op z : Int) : ∀ (A B : jo_C), jo_put (A ++ (op, z) :: B) A.length = A ++ (op, (B.length : Int)) :: B := by
  intro A B
  unfold jo_put
  have e1 : (A ++ (op, z) :: B).getD A.length (0, 0) = (op, z) := by
    rw [List.getD_eq_getElem?_getD, List.getElem?_append_right (Nat.le_refl _), Nat.sub_self]
    rfl
  have e2 : ((A ++ (op, z) :: B).length : Int) - (A.length : Int) - 1 = (B.length : Int) := by
    rw [List.length_append, List.length_cons]
    omega
  rw [e1, e2, List.set_append_right _ _ (Nat.le_refl _), Nat.sub_self]
  rfl
theorem jo_cl_len : ∀ (U : jo_C) (all : Bool) (c : jo_C), (jo_cl all U c).1.length ≤ U.length
  | [], all, c => Nat.le_refl _
  | q :: U, all, c => by
    by_cases h1 : (4 ≤ q.1 ∧ q.1 ≤ 6) ∨ (all = true ∧ 2 ≤ q.1 ∧ q.1 ≤ 3)
    · rw [jo_cl_y h1]
      exact Nat.le_succ_of_le (jo_cl_len U all _)
    · rw [jo_cl_n h1]
      exact Nat.le_refl _
/-- P is closed under the steps of sums: F ahead of a factor, A behind it -/
def jo_sc (b : Int → Int) (m : Int) (Er : Int → Prop) (F A : Int → jo_C → jo_C → Int → Prop) (Dn : Int → jo_C → Int → Prop) : Prop :=
  (∀ i U c o, jk_h b m i = 91 → o < 6 → F (i + 1) ((14, 0) :: U) c (o + 1) → F i U c o) ∧
  (∀ i U c o, jk_h b m i = 91 → o = 6 → Er (-1000 * 5 - i) → F i U c o) ∧
  (∀ i U c o, jk_h b m i ≠ 91 → ((jl_atom b m i).1 ≠ 0 → Er (jl_atom b m i).1) → ((jl_atom b m i).1 = 0 → A (jl_atom b m i).2.1 U (c ++ (jl_atom b m i).2.2) o) → F i U c o) ∧
  (∀ i U c o W c', jl_tim (jk_h b m i) ≠ 0 → jo_cl false U c = (W, c') → F (i + 1) ((jl_tim (jk_h b m i), 0) :: W) c' o → A i U c o) ∧
  (∀ i U c o W c', jl_sgn (jk_h b m i) ≠ 0 → jo_cl true U c = (W, c') → F (i + 1) ((jl_sgn (jk_h b m i), 0) :: W) c' o → A i U c o) ∧
  (∀ i U c o W c', jk_h b m i = 93 → jo_has U → jo_cl true U c = ((14, 0) :: W, c') → A (i + 1) W c' (o - 1) → A i U c o) ∧
  (∀ i U c o, jl_tim (jk_h b m i) = 0 → jl_sgn (jk_h b m i) = 0 → jk_h b m i ≠ 93 → jo_has U → Er (-1000 * 1 - i) → A i U c o) ∧
  (∀ i U c o c', jl_tim (jk_h b m i) = 0 → jl_sgn (jk_h b m i) = 0 → ¬ jo_has U → jo_cl true U c = ([], c') → Dn i c' o → A i U c o)
section JOS
variable {b : Int → Int} {m : Int} {Er : Int → Prop} {F A : Int → jo_C → jo_C → Int → Prop} {Dn : Int → jo_C → Int → Prop} {G : Int → jl_R} {k : Nat}
/-- from there a sum is read: what waits is closed by the next sign -/
def jo_sm (b : Int → Int) (m : Int) (Er : Int → Prop) (F A : Int → jo_C → jo_C → Int → Prop) (G : Int → jl_R) (k : Nat) : Prop := ∀ (i : Int) (U c : jo_C) (o : Int), 0 ≤ i → o + (k : Int) = 6 → (∀ c, jo_cl true U c = (U, c)) → ((G i).1 ≠ 0 → Er (G i).1) → ((G i).1 = 0 → ∀ U1 c1, jo_cl true U1 c1 = (U, c ++ (G i).2.2) → jl_sgn (jk_h b m (G i).2.1) = 0 → jl_tim (jk_h b m (G i).2.1) = 0 → A (G i).2.1 U1 c1 o) → F i U c o
theorem jo_fac (hS : jo_sc b m Er F A Dn) (hG : k ≠ 0 → jo_sm b m Er F A G (k - 1)) (hO : ∀ i, 0 ≤ i → jl_ok m i (G i)) (i : Int) (U c : jo_C) (o : Int) (i0 : 0 ≤ i) (ho : o + (k : Int) = 6) (h1 : (jl_fac b m G k i).1 ≠ 0 → Er (jl_fac b m G k i).1) (h2 : (jl_fac b m G k i).1 = 0 → A (jl_fac b m G k i).2.1 U (c ++ (jl_fac b m G k i).2.2) o) : F i U c o := by
  obtain ⟨s1, s2, s3, s4, s5, s6, s7, s8⟩ := hS
  by_cases h : jk_h b m i = 91
  · by_cases hk : k = 0
    · refine s2 i U c o h (by omega) ?_
      rw [jl_fac_5 h hk] at h1
      exact h1 (show -1000 * 5 - i ≠ 0 by omega)
    · refine s1 i U c o h (by omega) (hG hk (i + 1) ((14, 0) :: U) c (o + 1) (by omega) (by omega) (fun c => jo_cl_n (by show ¬ ((4 ≤ (14 : Int) ∧ (14 : Int) ≤ 6) ∨ (true = true ∧ 2 ≤ (14 : Int) ∧ (14 : Int) ≤ 3)); omega)) (fun hg => ?_) (fun hg U1 c1 hc hs ht => ?_))
      · rw [jl_fac_6 h hk hg] at h1
        exact h1 hg
      · have hm14 : jo_has U1 := ⟨(14, 0), jo_cl_mem U1 hc _ List.mem_cons_self, rfl⟩
        by_cases h93 : jk_h b m (G (i + 1)).2.1 = 93
        · refine s6 _ U1 c1 _ U (c ++ (G (i + 1)).2.2) h93 hm14 hc ?_
          rw [jl_fac_7 h hk hg h93] at h2
          have := h2 rfl
          rw [show o + 1 - 1 = o by omega]
          exact this
        · refine s7 _ U1 c1 _ ht hs h93 hm14 ?_
          rw [jl_fac_8 h hk hg h93] at h1
          refine h1 (show -1000 * 1 - (G (i + 1)).2.1 ≠ 0 from ?_)
          have := hO (i + 1) (by omega) hg
          omega
  · rw [jl_fac_at h] at h1 h2
    exact s3 i U c o h h1 h2
theorem jo_prl (hS : jo_sc b m Er F A Dn) (hG : k ≠ 0 → jo_sm b m Er F A G (k - 1)) (hO : ∀ i, 0 ≤ i → jl_ok m i (G i)) {U c : jo_C} {o : Int} (ho : o + (k : Int) = 6) (hU : ∀ c, jo_cl false U c = (U, c)) : ∀ (f : Nat) (R : jl_R) (U1 c1 : jo_C), R.1 = 0 → 0 ≤ R.2.1 → R.2.1 ≤ m → m < R.2.1 + (f : Int) → jo_cl false U1 c1 = (U, c ++ R.2.2) → ((jl_prl b m G k f R).1 ≠ 0 → Er (jl_prl b m G k f R).1) → ((jl_prl b m G k f R).1 = 0 → ∀ U2 c2, jo_cl false U2 c2 = (U, c ++ (jl_prl b m G k f R).2.2) → jl_tim (jk_h b m (jl_prl b m G k f R).2.1) = 0 → A (jl_prl b m G k f R).2.1 U2 c2 o) → A R.2.1 U1 c1 o
  | 0, R, U1, c1, hR, r0, r1, hf, hc, h1, h2 => by
    exfalso
    omega
  | f + 1, R, U1, c1, hR, r0, r1, hf, hc, h1, h2 => by
    by_cases ht : jl_tim (jk_h b m R.2.1) = 0
    · rw [jl_prl_no (fun w => w.2 ht) (f + 1)] at h2
      exact h2 hR U1 c1 hc ht
    · have e : jl_prl b m G k (f + 1) R = jl_prl b m G k f ((jl_fac b m G k (R.2.1 + 1)).1, (jl_fac b m G k (R.2.1 + 1)).2.1, R.2.2 ++ (jl_fac b m G k (R.2.1 + 1)).2.2 ++ [(jl_tim (jk_h b m R.2.1), 0)]) := if_pos ⟨hR, ht⟩
      rw [e] at h1 h2
      have hrg := jl_tim_rg (jk_h b m R.2.1)
      obtain ⟨s, hs⟩ : ∃ s : Int, s = jl_tim (jk_h b m R.2.1) := ⟨_, rfl⟩
      obtain ⟨X, hX⟩ : ∃ X : jl_R, X = jl_fac b m G k (R.2.1 + 1) := ⟨_, rfl⟩
      have hok := jl_ok_fac (b := b) (m := m) (k := k) hO (i := R.2.1 + 1) (by omega)
      have hf4 := hS.2.2.2.1
      refine hf4 _ U1 c1 o U (c ++ R.2.2) ht hc (jo_fac hS hG hO _ _ _ _ (by omega) ho (fun hx => ?_) (fun hx => ?_))
      · rw [jl_prl_no (by exact fun w => hx w.1) f] at h1
        exact h1 hx
      · have hok2 := hok hx
        rw [← hs] at hrg ht h1 h2 ⊢
        rw [← hX] at hok2 hx h1 h2 ⊢
        refine jo_prl hS hG hO ho hU f (X.1, X.2.1, R.2.2 ++ X.2.2 ++ [(s, 0)]) _ _ hx (show 0 ≤ X.2.1 by omega) hok2.2 (show m < X.2.1 + (f : Int) by omega) ?_ h1 h2
        rw [jo_cl_y (.inl (show 4 ≤ s ∧ s ≤ 6 by omega)), hU]
        show (U, c ++ R.2.2 ++ X.2.2 ++ [(s, 0)]) = (U, c ++ (R.2.2 ++ X.2.2 ++ [(s, 0)]))
        simp only [List.append_assoc]
theorem jo_prod (hS : jo_sc b m Er F A Dn) (hG : k ≠ 0 → jo_sm b m Er F A G (k - 1)) (hO : ∀ i, 0 ≤ i → jl_ok m i (G i)) (i : Int) (U c : jo_C) (o : Int) (i0 : 0 ≤ i) (ho : o + (k : Int) = 6) (hU : ∀ c, jo_cl false U c = (U, c)) (h1 : (jl_prod b m G k i).1 ≠ 0 → Er (jl_prod b m G k i).1) (h2 : (jl_prod b m G k i).1 = 0 → ∀ U2 c2, jo_cl false U2 c2 = (U, c ++ (jl_prod b m G k i).2.2) → jl_tim (jk_h b m (jl_prod b m G k i).2.1) = 0 → A (jl_prod b m G k i).2.1 U2 c2 o) (hm : m ≤ 240) : F i U c o := by
  refine jo_fac hS hG hO i U c o i0 ho (fun hx => ?_) (fun hx => ?_)
  · have e : jl_prod b m G k i = jl_fac b m G k i := jl_prl_no (fun w => hx w.1) 300
    rw [e] at h1
    exact h1 hx
  · have hok := jl_ok_fac (b := b) (m := m) (k := k) hO (i := i) i0 hx
    exact jo_prl hS hG hO ho hU 300 (jl_fac b m G k i) U _ hx (by omega) hok.2 (by omega) (hU _) h1 h2
theorem jo_sml (hS : jo_sc b m Er F A Dn) (hG : k ≠ 0 → jo_sm b m Er F A G (k - 1)) (hO : ∀ i, 0 ≤ i → jl_ok m i (G i)) (hm : m ≤ 240) {U c : jo_C} {o : Int} (ho : o + (k : Int) = 6) (hU : ∀ c, jo_cl true U c = (U, c)) : ∀ (f : Nat) (R : jl_R) (U1 c1 : jo_C), R.1 = 0 → 0 ≤ R.2.1 → R.2.1 ≤ m → m < R.2.1 + (f : Int) → jl_tim (jk_h b m R.2.1) = 0 → jo_cl true U1 c1 = (U, c ++ R.2.2) → ((jl_sml b m G k f R).1 ≠ 0 → Er (jl_sml b m G k f R).1) → ((jl_sml b m G k f R).1 = 0 → ∀ U2 c2, jo_cl true U2 c2 = (U, c ++ (jl_sml b m G k f R).2.2) → jl_sgn (jk_h b m (jl_sml b m G k f R).2.1) = 0 → jl_tim (jk_h b m (jl_sml b m G k f R).2.1) = 0 → A (jl_sml b m G k f R).2.1 U2 c2 o) → A R.2.1 U1 c1 o
  | 0, R, U1, c1, hR, r0, r1, hf, htm, hc, h1, h2 => by
    exfalso
    omega
  | f + 1, R, U1, c1, hR, r0, r1, hf, htm, hc, h1, h2 => by
    by_cases ht : jl_sgn (jk_h b m R.2.1) = 0
    · rw [jl_sml_no (fun w => w.2 ht) (f + 1)] at h2
      exact h2 hR U1 c1 hc ht htm
    · have e : jl_sml b m G k (f + 1) R = jl_sml b m G k f ((jl_prod b m G k (R.2.1 + 1)).1, (jl_prod b m G k (R.2.1 + 1)).2.1, R.2.2 ++ (jl_prod b m G k (R.2.1 + 1)).2.2 ++ [(jl_sgn (jk_h b m R.2.1), 0)]) := if_pos ⟨hR, ht⟩
      rw [e] at h1 h2
      have hrg := jl_sgn_rg (jk_h b m R.2.1)
      obtain ⟨s, hs⟩ : ∃ s : Int, s = jl_sgn (jk_h b m R.2.1) := ⟨_, rfl⟩
      obtain ⟨X, hX⟩ : ∃ X : jl_R, X = jl_prod b m G k (R.2.1 + 1) := ⟨_, rfl⟩
      have hok := jl_ok_prod (b := b) (m := m) (k := k) hO (i := R.2.1 + 1) (by omega)
      have hf5 := hS.2.2.2.2.1
      have hst : ∀ c, jo_cl false ((jl_sgn (jk_h b m R.2.1), 0) :: U) c = ((jl_sgn (jk_h b m R.2.1), 0) :: U, c) := fun c => jo_cl_n (by
        rw [← hs] at hrg ht ⊢
        show ¬ ((4 ≤ s ∧ s ≤ 6) ∨ (false = true ∧ 2 ≤ s ∧ s ≤ 3))
        exact fun w => w.elim (fun w => by omega) (fun w => Bool.noConfusion w.1))
      refine hf5 _ U1 c1 o U (c ++ R.2.2) ht hc (jo_prod hS hG hO _ _ _ _ (by omega) ho hst (fun hx => ?_) (fun hx U2 c2 hc2 ht2 => ?_) hm)
      · rw [jl_sml_no (by exact fun w => hx w.1) f] at h1
        exact h1 hx
      · have hok2 := hok hx
        rw [← hs] at hrg ht h1 h2 hc2
        rw [← hX] at hok2 hx h1 h2 hc2 ht2 ⊢
        refine jo_sml hS hG hO hm ho hU f (X.1, X.2.1, R.2.2 ++ X.2.2 ++ [(s, 0)]) U2 c2 hx (show 0 ≤ X.2.1 by omega) hok2.2 (show m < X.2.1 + (f : Int) by omega) ht2 ?_ h1 h2
        rw [jo_cl_tf U2 hc2, jo_cl_y (.inr ⟨rfl, (show 2 ≤ s ∧ s ≤ 3 by omega)⟩), hU]
        show (U, c ++ R.2.2 ++ X.2.2 ++ [(s, 0)]) = (U, c ++ (R.2.2 ++ X.2.2 ++ [(s, 0)]))
        simp only [List.append_assoc]
theorem jo_sumG (hS : jo_sc b m Er F A Dn) (hG : k ≠ 0 → jo_sm b m Er F A G (k - 1)) (hO : ∀ i, 0 ≤ i → jl_ok m i (G i)) (hm : m ≤ 240) : jo_sm b m Er F A (jl_sumG b m G k) k := by
  intro i U c o i0 ho hU h1 h2
  have hUf : ∀ c, jo_cl false U c = (U, c) := by
    intro c
    match U, hU with
    | [], _ => rfl
    | q :: U, hU =>
      refine jo_cl_n (fun w => ?_)
      rcases w with w | w
      · have := hU c
        rw [jo_cl_y (.inl w)] at this
        have k := jo_cl_len U true (c ++ [(q.1, 0)])
        rw [this] at k
        exact absurd k (by show ¬ (U.length + 1 ≤ U.length); omega)
      · exact Bool.noConfusion w.1
  refine jo_prod hS hG hO i U c o i0 ho hUf (fun hx => ?_) (fun hx U2 c2 hc2 ht2 => ?_) hm
  · have e : jl_sumG b m G k i = jl_prod b m G k i := jl_sml_no (fun w => hx w.1) 300
    rw [e] at h1
    exact h1 hx
  · have hok := jl_ok_prod (b := b) (m := m) (k := k) hO (i := i) i0 hx
    refine jo_sml hS hG hO hm ho hU 300 (jl_prod b m G k i) U2 c2 hx (by omega) hok.2 (by omega) ht2 ?_ h1 h2
    rw [jo_cl_tf U2 hc2]
    exact hU _
/-- each sum, read with the stack -/
theorem jo_S (hS : jo_sc b m Er F A Dn) (hm : m ≤ 240) : ∀ k : Nat, jo_sm b m Er F A (jl_S b m k) k
  | 0 => jo_sumG hS (fun h => absurd rfl h) (fun i i0 h => by have h1 : (-1 : Int) = 0 := h; omega) hm
  | k + 1 => jo_sumG hS (fun _ => jo_S hS hm k) (fun i i0 => jl_ok_S k i0) hm
theorem jo_sums (hS : jo_sc b m Er F A Dn) (hm : m ≤ 240) {k : Nat} {i o : Int} {c : jo_C} (i0 : 0 ≤ i) (ho : o + (k : Int) = 6) (h1 : (jl_S b m k i).1 ≠ 0 → Er (jl_S b m k i).1) (h2 : (jl_S b m k i).1 = 0 → Dn (jl_S b m k i).2.1 (c ++ (jl_S b m k i).2.2) o) : F i [] c o :=
  jo_S hS hm k i [] c o i0 ho (fun _ => rfl) h1 (fun h U1 c1 hc hs ht => hS.2.2.2.2.2.2.2 _ U1 c1 o _ ht hs (jo_cl_nil U1 hc) hc (h2 h))
end JOS

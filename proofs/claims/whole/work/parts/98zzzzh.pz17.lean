/-! ===== conditions read with a stack, purely ===== -/
/-- closed under the steps of conditions: T ahead of a test, E behind it -/
def jo_ex (E : Int → jo_C → jo_C → Int → Prop) (i : Int) (X : jo_C × jo_C × Int) : Prop := E i X.1 X.2.1 X.2.2
def jo_bang (x : Int) : Int := if x = 33 then 10 else 13
def jo_cc (b : Int → Int) (m : Int) (Er : Int → Prop) (T E : Int → jo_C → jo_C → Int → Prop) (Dn : Int → jo_C → Prop) : Prop :=
  (∀ i W c o, (jk_h b m i = 33 ∨ jk_h b m i = 40) → o < 6 → T (i + 1) ((jo_bang (jk_h b m i), 0) :: W) c (o + 1) → T i W c o) ∧
  (∀ i W c o, (jk_h b m i = 33 ∨ jk_h b m i = 40) → o = 6 → Er (-1000 * 5 - i) → T i W c o) ∧
  (∀ i W c o (k : Nat), jk_h b m i ≠ 33 → jk_h b m i ≠ 40 → o + (k : Int) = 6 → ((jl_cmp b m k i).1 ≠ 0 → Er (jl_cmp b m k i).1) → ((jl_cmp b m k i).1 = 0 → jo_ex E (jl_cmp b m k i).2.1 (jo_en W (c ++ (jl_cmp b m k i).2.2) o)) → T i W c o) ∧
  (∀ i W c o W' c', jk_h b m i = 41 → jo_ln true W c = ((13, 0) :: W', c') → W' ≠ [] → jo_ex E (i + 1) (jo_en W' c' (o - 1)) → E i W c o) ∧
  (∀ i W c o c', jk_h b m i = 41 → jo_ln true W c = ([(13, 0)], c') → Dn (i + 1) c' → E i W c o) ∧
  (∀ i W c o W' c', jk_h b m i = 38 → jo_ln false W c = (W', c') → T (i + 1) ((11, (c'.length : Int)) :: W') (c' ++ [(11, -1)]) o → E i W c o) ∧
  (∀ i W c o W' c', jk_h b m i = 124 → jo_ln true W c = (W', c') → T (i + 1) ((12, (c'.length : Int)) :: W') (c' ++ [(12, -1)]) o → E i W c o) ∧
  (∀ i W c o, jk_h b m i ≠ 41 → jk_h b m i ≠ 38 → jk_h b m i ≠ 124 → Er (-1000 * 1 - i) → E i W c o)
section JOC
variable {b : Int → Int} {m : Int} {Er : Int → Prop} {T E : Int → jo_C → jo_C → Int → Prop} {Dn : Int → jo_C → Prop} {t : Int → jl_R} {k : Nat}
/-- from there a test is read -/
def jo_tm (Er : Int → Prop) (T E : Int → jo_C → jo_C → Int → Prop) (t : Int → jl_R) (k : Nat) : Prop := ∀ (i : Int) (W c : jo_C) (o : Int), 0 ≤ i → o + (k : Int) = 6 → W ≠ [] → ((t i).1 ≠ 0 → Er (t i).1) → ((t i).1 = 0 → jo_ex E (t i).2.1 (jo_en W (c ++ (t i).2.2) o)) → T i W c o
def jo_nm (b : Int → Int) (m : Int) (Er : Int → Prop) (T E : Int → jo_C → jo_C → Int → Prop) (t : Int → jl_R) (k : Nat) : Prop := ∀ (i : Int) (W c : jo_C) (o : Int), 0 ≤ i → o + (k : Int) = 6 → ((t i).1 ≠ 0 → Er (t i).1) → ((t i).1 = 0 → ∀ W1 c1, jo_ln true W1 c1 = ((13, 0) :: W, c ++ (t i).2.2) → jk_h b m (t i).2.1 ≠ 38 → jk_h b m (t i).2.1 ≠ 124 → E (t i).2.1 W1 c1 o) → T i ((13, 0) :: W) c o
theorem jo_ln_st {W : jo_C} {q : Int × Int} (h : q.1 = 12 ∨ q.1 = 13) : (∀ c, jo_ln false (q :: W) c = (q :: W, c)) ∧ ∀ c o, jo_en (q :: W) c o = (q :: W, c, o) :=
  ⟨fun c => jo_ln_n (fun w => w.elim (fun w => by omega) (fun w => Bool.noConfusion w.1)), fun c o => jo_en_n (by omega)⟩
theorem jo_ptl (hC : jo_cc b m Er T E Dn) (hT : jo_tm Er T E t k) (hO : ∀ i, 0 ≤ i → jl_ok m i (t i)) {W c : jo_C} {q : Int × Int} {o : Int} (ho : o + (k : Int) = 6) (hq : q.1 = 12 ∨ q.1 = 13) : ∀ (f : Nat) (R : jl_R) (W1 c1 : jo_C), R.1 = 0 → 0 ≤ R.2.1 → R.2.1 ≤ m → m < R.2.1 + (f : Int) → jo_ln false W1 c1 = (q :: W, c ++ R.2.2) → ((jl_ptl b m t f R).1 ≠ 0 → Er (jl_ptl b m t f R).1) → ((jl_ptl b m t f R).1 = 0 → ∀ W2 c2, jo_ln false W2 c2 = (q :: W, c ++ (jl_ptl b m t f R).2.2) → jk_h b m (jl_ptl b m t f R).2.1 ≠ 38 → E (jl_ptl b m t f R).2.1 W2 c2 o) → E R.2.1 W1 c1 o
  | 0, R, W1, c1, hR, r0, r1, hf, hc, h1, h2 => by
    exfalso
    omega
  | f + 1, R, W1, c1, hR, r0, r1, hf, hc, h1, h2 => by
    by_cases ht : jk_h b m R.2.1 = 38
    · have e : jl_ptl b m t (f + 1) R = jl_ptl b m t f ((t (R.2.1 + 1)).1, (t (R.2.1 + 1)).2.1, R.2.2 ++ (11, ((t (R.2.1 + 1)).2.2.length : Int)) :: (t (R.2.1 + 1)).2.2) := if_pos ⟨hR, ht⟩
      rw [e] at h1 h2
      obtain ⟨X, hX⟩ : ∃ X : jl_R, X = t (R.2.1 + 1) := ⟨_, rfl⟩
      have hok := hO (R.2.1 + 1) (by omega)
      have h6 := hC.2.2.2.2.2.1
      refine h6 _ W1 c1 o (q :: W) (c ++ R.2.2) ht hc (hT _ _ _ _ (by omega) ho (List.cons_ne_nil _ _) (fun hx => ?_) (fun hx => ?_))
      · rw [jl_ptl_no (by exact fun w => hx w.1) f] at h1
        exact h1 hx
      · have hok2 := hok hx
        rw [← hX] at hok2 hx h1 h2 ⊢
        rw [jo_en_n (show ¬ (11 : Int) = 10 by omega)]
        refine jo_ptl hC hT hO ho hq f (X.1, X.2.1, R.2.2 ++ (11, (X.2.2.length : Int)) :: X.2.2) _ _ hx (show 0 ≤ X.2.1 by omega) hok2.2 (show m < X.2.1 + (f : Int) by omega) ?_ h1 h2
        rw [jo_ln_y (.inl rfl)]
        show jo_ln false (q :: W) (jo_put (c ++ R.2.2 ++ [(11, -1)] ++ X.2.2) (((c ++ R.2.2).length : Int)).toNat) = (q :: W, c ++ (R.2.2 ++ (11, (X.2.2.length : Int)) :: X.2.2))
        rw [(jo_ln_st hq).1, List.append_assoc (c ++ R.2.2), List.singleton_append, Int.toNat_natCast, jo_put_at, List.append_assoc]
    · rw [jl_ptl_no (fun w => ht w.2) (f + 1)] at h2
      exact h2 hR W1 c1 hc ht
/-- from there a part is read -/
theorem jo_prt (hC : jo_cc b m Er T E Dn) (hT : jo_tm Er T E t k) (hO : ∀ i, 0 ≤ i → jl_ok m i (t i)) (hm : m ≤ 240) {W c : jo_C} {q : Int × Int} {o : Int} (ho : o + (k : Int) = 6) (hq : q.1 = 12 ∨ q.1 = 13) {i : Int} (i0 : 0 ≤ i) (h1 : (jl_prt b m t i).1 ≠ 0 → Er (jl_prt b m t i).1) (h2 : (jl_prt b m t i).1 = 0 → ∀ W2 c2, jo_ln false W2 c2 = (q :: W, c ++ (jl_prt b m t i).2.2) → jk_h b m (jl_prt b m t i).2.1 ≠ 38 → E (jl_prt b m t i).2.1 W2 c2 o) : T i (q :: W) c o := by
  refine hT i (q :: W) c o i0 ho (List.cons_ne_nil _ _) (fun hx => ?_) (fun hx => ?_)
  · have e : jl_prt b m t i = t i := jl_ptl_no (fun w => hx w.1) 300
    rw [e] at h1
    exact h1 hx
  · have hok := hO i i0 hx
    rw [(jo_ln_st hq).2]
    exact jo_ptl hC hT hO ho hq 300 (t i) (q :: W) _ hx (by omega) hok.2 (by omega) ((jo_ln_st hq).1 _) h1 h2
theorem jo_cdl (hC : jo_cc b m Er T E Dn) (hT : jo_tm Er T E t k) (hO : ∀ i, 0 ≤ i → jl_ok m i (t i)) (hm : m ≤ 240) {W c : jo_C} {o : Int} (ho : o + (k : Int) = 6) : ∀ (f : Nat) (R : jl_R) (W1 c1 : jo_C), R.1 = 0 → 0 ≤ R.2.1 → R.2.1 ≤ m → m < R.2.1 + (f : Int) → jk_h b m R.2.1 ≠ 38 → jo_ln true W1 c1 = ((13, 0) :: W, c ++ R.2.2) → ((jl_cdl b m t f R).1 ≠ 0 → Er (jl_cdl b m t f R).1) → ((jl_cdl b m t f R).1 = 0 → ∀ W2 c2, jo_ln true W2 c2 = ((13, 0) :: W, c ++ (jl_cdl b m t f R).2.2) → jk_h b m (jl_cdl b m t f R).2.1 ≠ 38 → jk_h b m (jl_cdl b m t f R).2.1 ≠ 124 → E (jl_cdl b m t f R).2.1 W2 c2 o) → E R.2.1 W1 c1 o
  | 0, R, W1, c1, hR, r0, r1, hf, hn, hc, h1, h2 => by
    exfalso
    omega
  | f + 1, R, W1, c1, hR, r0, r1, hf, hn, hc, h1, h2 => by
    by_cases ht : jk_h b m R.2.1 = 124
    · have e : jl_cdl b m t (f + 1) R = jl_cdl b m t f ((jl_prt b m t (R.2.1 + 1)).1, (jl_prt b m t (R.2.1 + 1)).2.1, R.2.2 ++ (12, ((jl_prt b m t (R.2.1 + 1)).2.2.length : Int)) :: (jl_prt b m t (R.2.1 + 1)).2.2) := if_pos ⟨hR, ht⟩
      rw [e] at h1 h2
      obtain ⟨X, hX⟩ : ∃ X : jl_R, X = jl_prt b m t (R.2.1 + 1) := ⟨_, rfl⟩
      have hok := jl_ok_prt (b := b) hO (i := R.2.1 + 1) (by omega)
      have h7 := hC.2.2.2.2.2.2.1
      refine h7 _ W1 c1 o ((13, 0) :: W) (c ++ R.2.2) ht hc (jo_prt hC hT hO hm ho (.inl rfl) (by omega) (fun hx => ?_) (fun hx W2 c2 hc2 hn2 => ?_))
      · rw [jl_cdl_no (by exact fun w => hx w.1) f] at h1
        exact h1 hx
      · have hok2 := hok hx
        rw [← hX] at hok2 hx h1 h2 hc2 hn2 ⊢
        refine jo_cdl hC hT hO hm ho f (X.1, X.2.1, R.2.2 ++ (12, (X.2.2.length : Int)) :: X.2.2) W2 c2 hx (show 0 ≤ X.2.1 by omega) hok2.2 (show m < X.2.1 + (f : Int) by omega) hn2 ?_ h1 h2
        rw [jo_ln_tf W2 hc2, jo_ln_y (.inr ⟨rfl, rfl⟩), jo_ln_n (show ¬ ((13 : Int) = 11 ∨ (true = true ∧ (13 : Int) = 12)) by omega)]
        show ((13, 0) :: W, jo_put (c ++ R.2.2 ++ [(12, -1)] ++ X.2.2) (((c ++ R.2.2).length : Int)).toNat) = ((13, 0) :: W, c ++ (R.2.2 ++ (12, (X.2.2.length : Int)) :: X.2.2))
        rw [List.append_assoc (c ++ R.2.2), List.singleton_append, Int.toNat_natCast, jo_put_at, List.append_assoc]
    · rw [jl_cdl_no (fun w => ht w.2) (f + 1)] at h2
      exact h2 hR W1 c1 hc hn ht
/-- from there a condition is read -/
theorem jo_cnd (hC : jo_cc b m Er T E Dn) (hT : jo_tm Er T E t k) (hO : ∀ i, 0 ≤ i → jl_ok m i (t i)) (hm : m ≤ 240) : jo_nm b m Er T E (jl_cnd b m t) k := by
  intro i W c o i0 ho h1 h2
  refine jo_prt hC hT hO hm ho (.inr rfl) i0 (fun hx => ?_) (fun hx W2 c2 hc2 hn => ?_)
  · have e : jl_cnd b m t i = jl_prt b m t i := jl_cdl_no (fun w => hx w.1) 300
    rw [e] at h1
    exact h1 hx
  · have hok := jl_ok_prt (b := b) hO (i := i) i0 hx
    refine jo_cdl hC hT hO hm ho 300 (jl_prt b m t i) W2 c2 hx (by omega) hok.2 (by omega) hn ?_ h1 h2
    rw [jo_ln_tf W2 hc2]
    exact jo_ln_n (show ¬ ((13 : Int) = 11 ∨ (true = true ∧ (13 : Int) = 12)) by omega)
theorem jo_tst {C U : Int → jl_R} (hC : jo_cc b m Er T E Dn) (hN : k ≠ 0 → jo_nm b m Er T E C (k - 1)) (hT : k ≠ 0 → jo_tm Er T E U (k - 1)) (hCO : ∀ i, 0 ≤ i → jl_ok m i (C i)) : jo_tm Er T E (jl_tst b m C U k) k := by
  intro i W c o i0 ho hW h1 h2
  obtain ⟨c1, c2, c3, c4, c5, c6, c7, c8⟩ := hC
  unfold jl_tst at h1 h2
  by_cases h33 : jk_h b m i = 33
  · rw [if_pos h33] at h1 h2
    by_cases hk : k = 0
    · rw [if_pos hk] at h1
      exact c2 i W c o (.inl h33) (by omega) (h1 (show -1000 * 5 - i ≠ 0 by omega))
    · rw [if_neg hk] at h1 h2
      have hb : jo_bang (jk_h b m i) = 10 := if_pos h33
      refine c1 i W c o (.inl h33) (by omega) ?_
      rw [hb]
      refine hT hk (i + 1) ((10, 0) :: W) c (o + 1) (by omega) (by omega) (List.cons_ne_nil _ _) h1 (fun hx => ?_)
      have h3 := h2 hx
      rw [jo_en_y rfl, show o + 1 - 1 = o by omega, List.append_assoc]
      exact h3
  · rw [if_neg h33] at h1 h2
    by_cases h40 : jk_h b m i = 40
    · rw [if_pos h40] at h1 h2
      by_cases hk : k = 0
      · rw [if_pos hk] at h1
        exact c2 i W c o (.inr h40) (by omega) (h1 (show -1000 * 5 - i ≠ 0 by omega))
      · rw [if_neg hk] at h1 h2
        have hb : jo_bang (jk_h b m i) = 13 := if_neg h33
        refine c1 i W c o (.inr h40) (by omega) ?_
        rw [hb]
        refine hN hk (i + 1) W c (o + 1) (by omega) (by omega) (fun hx => ?_) (fun hx W1 c1 hc h38 h124 => ?_)
        · rw [if_pos hx] at h1
          exact h1 hx
        · rw [if_neg (not_not_intro hx)] at h1 h2
          have hok := hCO (i + 1) (by omega) hx
          by_cases h41 : jk_h b m (C (i + 1)).2.1 = 41
          · rw [if_pos h41] at h2
            refine c4 _ W1 c1 _ W _ h41 hc hW ?_
            rw [show o + 1 - 1 = o by omega]
            exact h2 rfl
          · rw [if_neg h41] at h1
            exact c8 _ W1 c1 _ h41 h38 h124 (h1 (show -1000 * 1 - (C (i + 1)).2.1 ≠ 0 by omega))
    · rw [if_neg h40] at h1 h2
      exact c3 i W c o k h33 h40 ho h1 h2
/-- each test, read with the stack -/
theorem jo_T (hC : jo_cc b m Er T E Dn) (hm : m ≤ 240) : ∀ k : Nat, jo_tm Er T E (jl_T b m k) k
  | 0 => jo_tst hC (fun h => absurd rfl h) (fun h => absurd rfl h) (fun i i0 h => by have h1 : (-1 : Int) = 0 := h; omega)
  | k + 1 => jo_tst hC (fun _ => jo_cnd hC (jo_T hC hm k) (fun i i0 => jl_ok_T k i0) hm) (fun _ => jo_T hC hm k) (fun i i0 => jl_ok_cnd (fun i i0 => jl_ok_T k i0) i0)
/-- the condition of a rule -/
theorem jo_cond (hC : jo_cc b m Er T E Dn) (hm : m ≤ 240) {i : Int} {c : jo_C} (i0 : 0 ≤ i) (h1 : (jl_cnd b m (jl_T b m 5) i).1 ≠ 0 → Er (jl_cnd b m (jl_T b m 5) i).1) (h2 : (jl_cnd b m (jl_T b m 5) i).1 = 0 → jk_h b m (jl_cnd b m (jl_T b m 5) i).2.1 = 41 → Dn ((jl_cnd b m (jl_T b m 5) i).2.1 + 1) (c ++ (jl_cnd b m (jl_T b m 5) i).2.2)) (h3 : (jl_cnd b m (jl_T b m 5) i).1 = 0 → jk_h b m (jl_cnd b m (jl_T b m 5) i).2.1 ≠ 41 → Er (-1000 * 1 - (jl_cnd b m (jl_T b m 5) i).2.1)) : T i [(13, 0)] c 1 := by
  refine jo_cnd hC (jo_T hC hm 5) (fun i i0 => jl_ok_T 5 i0) hm i [] c 1 i0 (by omega) h1 (fun hx W1 c1 hc h38 h124 => ?_)
  by_cases h41 : jk_h b m (jl_cnd b m (jl_T b m 5) i).2.1 = 41
  · exact hC.2.2.2.2.1 _ W1 c1 1 _ h41 hc (h2 hx h41)
  · exact hC.2.2.2.2.2.2.2 _ W1 c1 1 h41 h38 h124 (h3 hx h41)
end JOC

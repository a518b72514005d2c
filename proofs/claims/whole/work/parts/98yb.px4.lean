/-! ===== the class: one point more among the points ===== -/
/-- a row's places moved on by one from t on -/
def jx_mv (σ : jw_H) (a : Nat) (t m : Int) : jw_H := fun o j => if o = a ∧ t < j ∧ j ≤ m then σ a (j - 1) else σ o j
theorem jx_mv_0 (σ : jw_H) (a : Nat) (m : Int) : jx_mv σ a m m = σ := by
  funext o j
  exact if_neg (by omega)
theorem jx_mv_s (σ : jw_H) (a : Nat) {t m : Int} (h : t ≤ m) : jw_up (jx_mv σ a t m) a t (σ a (t - 1)) = jx_mv σ a (t - 1) m := by
  funext o j
  simp only [jw_up, jx_mv]
  by_cases ho : o = a
  · by_cases hj : j = t
    · rw [if_pos ⟨ho, hj⟩, if_pos (by omega), hj]
    · rw [if_neg (by omega)]
      by_cases h2 : t < j ∧ j ≤ m
      · rw [if_pos ⟨ho, h2⟩, if_pos (by omega)]
      · rw [if_neg (by omega), if_neg (by omega)]
  · rw [if_neg (by omega), if_neg (by omega), if_neg (by omega)]
def jx_pf1 (σ : jw_H) (a : Nat) (k m v : Int) : jw_H := jw_up (jx_mv σ a k m) a k v
theorem jx_pf1_o (σ : jw_H) {a o : Nat} (k m v : Int) (h : o ≠ a) : jx_pf1 σ a k m v o = σ o := by
  funext j
  simp only [jx_pf1, jw_up, jx_mv]
  rw [if_neg (by omega), if_neg (by omega)]
theorem jx_pf1_a (σ : jw_H) (a : Nat) {k m : Int} (v : Int) (hk : k ≤ m) (j : Int) : jx_pf1 σ a k m v a j = if j < k then σ a j else if j = k then v else if j ≤ m then σ a (j - 1) else σ a j := by
  simp only [jx_pf1, jw_up, jx_mv]
  by_cases h1 : j = k
  · rw [if_pos ⟨trivial, h1⟩, if_neg (by omega), if_pos h1]
  · rw [if_neg (by omega)]
    by_cases h2 : j < k
    · rw [if_neg (by omega), if_pos h2]
    · rw [if_neg h2, if_neg h1]
      by_cases h3 : j ≤ m
      · rw [if_pos ⟨trivial, by omega, h3⟩, if_pos h3]
      · rw [if_neg (by omega), if_neg h3]
theorem jx_put_loop {n : Nat} {σ : jw_H} {p a : Nat} {k v m : Int} {D : Nat} {Q : Option jw_V → jw_H → Prop} (ha : (js_S n)[a]? = some (.inr (0, 64))) (a13 : 13 ≤ a) (k0 : 0 ≤ k) (m64 : m < 64) (hQ : Q none (jx_pf1 σ a k m v)) : ∀ (f : Nat) {t : Int}, t ≤ m → t = k + f → jw_W (js_S n) D md_60 3 [some (.inr (.inr p)), some (.inr (.inr a)), some (.inl k), some (.inl v), some (.inl t)] [] (jx_mv σ a t m) Q
  | f, t, t1, hk => by
    have ih : k < t → jw_W (js_S n) D md_60 3 [some (.inr (.inr p)), some (.inr (.inr a)), some (.inl k), some (.inl v), some (.inl (t - 1))] [] (jx_mv σ a (t - 1) m) Q := by
      intro h1
      match f, hk with
      | 0, hk => omega
      | f + 1, hk => exact jx_put_loop ha a13 k0 m64 hQ f (by omega) (by omega)
    refine jw_W_n 2 (i' := 5) (ls' := [some (.inr (.inr p)), some (.inr (.inr a)), some (.inl k), some (.inl v), some (.inl t)]) (st' := [.inl k, .inl t]) rfl ?_
    refine jw_W_ic rfl (by unfold jw_rg; omega) (by unfold jw_rg; omega) (fun hc1 => ?_) (fun hc1 => ?_)
    · have hc1 : t ≤ k := hc1
      refine jw_W_n 3 (i' := 19) (ls' := [some (.inr (.inr p)), some (.inr (.inr a)), some (.inl k), some (.inl v), some (.inl t)]) (st' := [.inl v, .inl k, .inr (.inr a)]) rfl ?_
      refine jw_W_is rfl (by omega) ha (by omega) (by omega) (by omega) ?_
      refine jw_W_re rfl ?_
      have ht : t = k := by omega
      subst ht
      exact hQ
    · have hc1 : ¬ (t ≤ k) := hc1
      refine jw_W_n 6 (i' := 12) (ls' := [some (.inr (.inr p)), some (.inr (.inr a)), some (.inl k), some (.inl v), some (.inl t)]) (st' := [.inl (t - 1), .inr (.inr a), .inl t, .inr (.inr a)]) rfl ?_
      refine jw_W_ia rfl ha (by omega) (by omega) (by omega) ?_
      show jw_W (js_S n) _ md_60 13 [some (.inr (.inr p)), some (.inr (.inr a)), some (.inl k), some (.inl v), some (.inl t)] [.inl ((jx_mv σ a t m) a (t - 1)), .inl t, .inr (.inr a)] ((jx_mv σ a t m)) _
      refine jw_W_is rfl (by omega) ha (by omega) (by omega) (by omega) ?_
      refine jw_W_n 2 (i' := 3) (ls' := [some (.inr (.inr p)), some (.inr (.inr a)), some (.inl k), some (.inl v), some (.inl (t + ((-1))))]) (st' := []) rfl ?_
      have e1 : jx_mv σ a t m a (t - 1) = σ a (t - 1) := if_neg (by omega)
      rw [e1, jx_mv_s σ a t1]
      exact ih (by omega)
theorem jx_put {n : Nat} {σ : jw_H} {p : Nat} (hp : jx_pp n p) {a : Nat} {k v : Int} (ha : (js_S n)[a]? = some (.inr (0, 64))) (a13 : 13 ≤ a) (k0 : 0 ≤ k) (k1 : k ≤ σ p 0) (m64 : σ p 0 < 64) : jw_T (js_S n) 1 60 [.inr (.inr p), .inr (.inr a), .inl k, .inl v] σ (fun r σ' => r = none ∧ σ' = jx_pf1 σ a k (σ p 0) v) := by
  refine jw_T_of (D := 0) (M := mm_60) rfl (Nat.le_of_ble_eq_true rfl) (ls0 := [some (.inr (.inr p)), some (.inr (.inr a)), some (.inl k), some (.inl v), none]) rfl ?_ (by rintro _ _ ⟨rfl, -⟩; rfl)
  have ho := hp.1
  refine jw_W_n 1 (i' := 1) (ls' := [some (.inr (.inr p)), some (.inr (.inr a)), some (.inl k), some (.inl v), none]) (st' := [.inr (.inr p)]) rfl ?_
  refine jw_W_gf rfl hp.2.1 rfl ?_
  show jw_W (js_S n) _ md_60 2 [some (.inr (.inr p)), some (.inr (.inr a)), some (.inl k), some (.inl v), none] [.inl (σ p 0)] σ _
  refine jw_W_n 1 (i' := 3) (ls' := [some (.inr (.inr p)), some (.inr (.inr a)), some (.inl k), some (.inl v), some (.inl (σ p 0))]) (st' := []) rfl ?_
  have key := jx_put_loop (n := n) (σ := σ) (p := p) (a := a) (k := k) (v := v) (m := σ p 0) (D := 0) (Q := fun r σ' => r = none ∧ σ' = jx_pf1 σ a k (σ p 0) v) ha a13 k0 (by omega) ⟨rfl, rfl⟩ (σ p 0 - k).toNat (t := σ p 0) (by omega) (by omega)
  rw [jx_mv_0] at key
  exact key
/-- the store holds these points -/
def jx_pl (σ : jw_H) (p : Nat) (P : List ge_R) : Prop := σ p 0 = (P.length : Int) ∧ ∀ (i : Nat) (x : ge_R), P[i]? = some x → jx_pt σ p (i : Int) = x
/-- sorted, each once -/
abbrev jx_so (P : List ge_R) : Prop := P.Pairwise (fun a b => ge_lt a b = true)
/-- what insert leaves -/
def jx_i4 (σ : jw_H) (p : Nat) (k : Int) (v : ge_R) : jw_H := jx_pf1 (jx_pf1 (jx_pf1 (jx_pf1 σ (p + 1) k (σ p 0) v.1) (p + 2) k (σ p 0) v.2.1) (p + 3) k (σ p 0) v.2.2.1) (p + 4) k (σ p 0) v.2.2.2
theorem jx_i4_o (σ : jw_H) (p : Nat) (k : Int) (v : ge_R) {o : Nat} (h : o ≤ p ∨ p + 4 < o) : jx_i4 σ p k v o = σ o := by
  unfold jx_i4
  rw [jx_pf1_o _ _ _ _ (by omega), jx_pf1_o _ _ _ _ (by omega), jx_pf1_o _ _ _ _ (by omega), jx_pf1_o _ _ _ _ (by omega)]
theorem jx_i4_pt (σ : jw_H) (p : Nat) {k : Int} (v : ge_R) (hk : k ≤ σ p 0) (j : Int) : jx_pt (jx_i4 σ p k v) p j = if j < k then jx_pt σ p j else if j = k then v else if j ≤ σ p 0 then jx_pt σ p (j - 1) else jx_pt σ p j := by
  have e1 : jx_i4 σ p k v (p + 1) j = if j < k then σ (p + 1) j else if j = k then v.1 else if j ≤ σ p 0 then σ (p + 1) (j - 1) else σ (p + 1) j := by
    unfold jx_i4
    rw [jx_pf1_o _ _ _ _ (by omega), jx_pf1_o _ _ _ _ (by omega), jx_pf1_o _ _ _ _ (by omega), jx_pf1_a _ _ _ hk]
  have e2 : jx_i4 σ p k v (p + 2) j = if j < k then σ (p + 2) j else if j = k then v.2.1 else if j ≤ σ p 0 then σ (p + 2) (j - 1) else σ (p + 2) j := by
    unfold jx_i4
    rw [jx_pf1_o _ _ _ _ (by omega), jx_pf1_o _ _ _ _ (by omega), jx_pf1_a _ _ _ hk, jx_pf1_o _ _ _ _ (by omega)]
  have e3 : jx_i4 σ p k v (p + 3) j = if j < k then σ (p + 3) j else if j = k then v.2.2.1 else if j ≤ σ p 0 then σ (p + 3) (j - 1) else σ (p + 3) j := by
    unfold jx_i4
    rw [jx_pf1_o _ _ _ _ (by omega), jx_pf1_a _ _ _ hk, jx_pf1_o _ _ _ _ (by omega), jx_pf1_o _ _ _ _ (by omega)]
  have e4 : jx_i4 σ p k v (p + 4) j = if j < k then σ (p + 4) j else if j = k then v.2.2.2 else if j ≤ σ p 0 then σ (p + 4) (j - 1) else σ (p + 4) j := by
    unfold jx_i4
    rw [jx_pf1_a _ _ _ hk, jx_pf1_o _ _ _ _ (by omega), jx_pf1_o _ _ _ _ (by omega), jx_pf1_o _ _ _ _ (by omega)]
  unfold jx_pt
  rw [e1, e2, e3, e4]
  split
  · rfl
  · split
    · rfl
    · split <;> rfl
/-- a list with one more at a place -/
def jx_in (P : List ge_R) (k : Nat) (v : ge_R) : List ge_R := P.take k ++ v :: P.drop k
theorem jx_in_len (P : List ge_R) {k : Nat} (v : ge_R) (hk : k ≤ P.length) : (jx_in P k v).length = P.length + 1 := by
  unfold jx_in
  rw [List.length_append, List.length_take, List.length_cons, List.length_drop]
  omega
theorem jx_in_get (P : List ge_R) {k : Nat} (v : ge_R) (hk : k ≤ P.length) (i : Nat) : (jx_in P k v)[i]? = if i < k then P[i]? else if i = k then some v else P[i - 1]? := by
  unfold jx_in
  have hl : (P.take k).length = k := by
    rw [List.length_take]
    omega
  by_cases h1 : i < k
  · rw [if_pos h1, List.getElem?_append_left (by omega), List.getElem?_take_of_lt h1]
  · rw [if_neg h1, List.getElem?_append_right (by omega), hl]
    by_cases h2 : i = k
    · rw [if_pos h2, h2, Nat.sub_self]
      rfl
    · rw [if_neg h2]
      obtain ⟨d, rfl⟩ : ∃ d, i = k + 1 + d := ⟨i - (k + 1), by omega⟩
      rw [show k + 1 + d - k = d + 1 by omega, List.getElem?_cons_succ, List.getElem?_drop, show k + 1 + d - 1 = k + d by omega]
theorem jx_in_mem (P : List ge_R) (k : Nat) (v u : ge_R) : u ∈ jx_in P k v ↔ u ∈ P ∨ u = v := by
  have e : u ∈ P ↔ u ∈ P.take k ∨ u ∈ P.drop k := by
    rw [← List.mem_append, List.take_append_drop]
  unfold jx_in
  rw [List.mem_append, List.mem_cons, e]
  grind
theorem jx_in_so {P : List ge_R} {k : Nat} {v : ge_R} (hs : jx_so P) (h1 : ∀ (i : Nat) (x : ge_R), P[i]? = some x → i < k → ge_lt x v = true) (h2 : ∀ (i : Nat) (x : ge_R), P[i]? = some x → k ≤ i → ge_lt v x = true) : jx_so (jx_in P k v) := by
  unfold jx_in
  have hs2 := hs
  rw [← List.take_append_drop k P] at hs2
  obtain ⟨s1, s2, s3⟩ := List.pairwise_append.mp hs2
  have a1 : ∀ x ∈ P.take k, ge_lt x v = true := by
    intro x hx
    obtain ⟨i, hi⟩ := List.getElem?_of_mem hx
    have hik : i < k := by
      have := (List.getElem?_eq_some_iff.mp hi).1
      rw [List.length_take] at this
      omega
    rw [List.getElem?_take_of_lt hik] at hi
    exact h1 i x hi hik
  have a2 : ∀ x ∈ P.drop k, ge_lt v x = true := by
    intro x hx
    obtain ⟨i, hi⟩ := List.getElem?_of_mem hx
    rw [List.getElem?_drop] at hi
    exact h2 (k + i) x hi (by omega)
  refine List.pairwise_append.mpr ⟨s1, List.pairwise_cons.mpr ⟨a2, s2⟩, fun x hx y hy => ?_⟩
  rcases List.mem_cons.mp hy with rfl | hy
  · exact a1 x hx
  · exact s3 x hx y hy
/-- a point as such rows hold it -/
def jx_ok (v : ge_R) : Prop := jx_bd v ∧ ge_g v = 1
theorem jx_so_get {P : List ge_R} (hs : jx_so P) {i j : Nat} {x y : ge_R} (hx : P[i]? = some x) (hy : P[j]? = some y) (ij : i < j) : ge_lt x y = true := by
  obtain ⟨hi, rfl⟩ := List.getElem?_eq_some_iff.mp hx
  obtain ⟨hj, rfl⟩ := List.getElem?_eq_some_iff.mp hy
  exact List.pairwise_iff_getElem.mp hs i j hi hj ij
/-- what insert does -/
def jx_ir (σ : jw_H) (p : Nat) (P : List ge_R) (v : ge_R) (σ' : jw_H) : Prop := ∃ P', jx_pl σ' p P' ∧ jx_so P' ∧ (∀ u, u ∈ P' ↔ u ∈ P ∨ u = v) ∧ ∀ o, (o < p ∨ p + 4 < o) → σ' o = σ o
theorem jx_ir_there {σ : jw_H} {p : Nat} {P : List ge_R} {v : ge_R} {i : Nat} (h : jx_pl σ p P) (hs : jx_so P) (hi : i < P.length) (he : jx_pt σ p (i : Int) = v) : jx_ir σ p P v σ := by
  have hg := List.getElem?_eq_getElem hi
  have := h.2 i _ hg
  refine ⟨P, h, hs, fun u => ⟨.inl, fun hu => ?_⟩, fun _ _ => rfl⟩
  rcases hu with hu | hu
  · exact hu
  · rw [hu, ← he, this]
    exact List.getElem_mem hi
theorem jx_ir_new {σ : jw_H} {p : Nat} {P : List ge_R} {v : ge_R} {k : Int} (h : jx_pl σ p P) (hs : jx_so P) (ho : ∀ u ∈ P, jx_ok u) (hv : jx_ok v) (k0 : 0 ≤ k) (k1 : k ≤ σ p 0) (h1 : k = 0 ∨ ¬ ge_lt v (jx_pt σ p (k - 1)) = true) (h2 : ∀ i, k ≤ i → i < σ p 0 → ge_lt v (jx_pt σ p i) = true) (hn : k = 0 ∨ jx_pt σ p (k - 1) ≠ v) : jx_ir σ p P v (jw_up (jx_i4 σ p k v) p 0 (σ p 0 + 1)) := by
  obtain ⟨m, rfl⟩ := Int.eq_ofNat_of_zero_le k0
  have hl := h.1
  have hm : m ≤ P.length := by omega
  refine ⟨jx_in P m v, ⟨?_, fun i x hx => ?_⟩, jx_in_so hs (fun i x hx hi => ?_) (fun i x hx hi => ?_), jx_in_mem P m v, fun o hh => ?_⟩
  · rw [jw_up_eq, jx_in_len P v hm]
    omega
  · have e : jx_pt (jw_up (jx_i4 σ p (m : Int) v) p 0 (σ p 0 + 1)) p (i : Int) = jx_pt (jx_i4 σ p (m : Int) v) p (i : Int) := by
      unfold jx_pt
      rw [jw_up_ne _ (by omega), jw_up_ne _ (by omega), jw_up_ne _ (by omega), jw_up_ne _ (by omega)]
    rw [e, jx_i4_pt σ p v k1]
    rw [jx_in_get P v hm] at hx
    have hil : i < P.length + 1 := by
      have := (List.getElem?_eq_some_iff.mp (show (jx_in P m v)[i]? = some x by rw [jx_in_get P v hm]; exact hx)).1
      rw [jx_in_len P v hm] at this
      exact this
    by_cases c1 : i < m
    · rw [if_pos (by omega)]
      rw [if_pos c1] at hx
      exact h.2 i x hx
    · rw [if_neg (by omega)]
      rw [if_neg c1] at hx
      by_cases c2 : i = m
      · rw [if_pos (by omega)]
        rw [if_pos c2] at hx
        cases hx
        rfl
      · rw [if_neg (by omega), if_pos (by omega)]
        rw [if_neg c2] at hx
        rw [show (i : Int) - 1 = ((i - 1 : Nat) : Int) by omega]
        exact h.2 (i - 1) x hx
  · -- before
    have hp := h.2 (m - 1)
    have hg := List.getElem?_eq_getElem (l := P) (i := m - 1) (by omega)
    have ep := hp _ hg
    rw [show ((m - 1 : Nat) : Int) = (m : Int) - 1 by omega] at ep
    have hz : ge_lt P[m - 1] v = true := by
      have w1 := (ho _ (List.getElem_mem (l := P) (n := m - 1) (by omega)))
      rcases ge_lt_tot P[m - 1] v with a | a | a
      · exact a
      · exact absurd a (by rw [← ep]; exact h1.resolve_left (by omega))
      · exact absurd (ep.trans (ge_prim w1.2 hv.2 w1.1.2.2.2.1 hv.1.2.2.2.1 a)) (hn.resolve_left (by omega))
    by_cases c : i = m - 1
    · subst c
      rw [hg] at hx
      cases hx
      exact hz
    · have w1 := ho x (List.mem_of_getElem? hx)
      have w2 := ho _ (List.getElem_mem (l := P) (n := m - 1) (by omega))
      exact ge_lt_tr w1.1.2.2.2.1 w2.1.2.2.2.1 hv.1.2.2.2.1 (jx_so_get hs hx hg (by omega)) hz
  · rw [← h.2 i x hx]
    have := (List.getElem?_eq_some_iff.mp hx).1
    exact h2 (i : Int) (by omega) (by omega)
  · rw [jw_up_out _ _ _ (by omega), jx_i4_o _ _ _ _ (by omega)]
theorem jx_ins_loop {n : Nat} {σ : jw_H} {p : Nat} {D : Nat} {x y z w : Int} {Q : Option jw_V → jw_H → Prop} (hp : jx_pp n p) (hD : 1 ≤ D) (hm : 0 ≤ σ p 0 ∧ σ p 0 ≤ 64) (hb : ∀ i, 0 ≤ i → i < σ p 0 → jx_bd (jx_pt σ p i)) (hv : jx_ok (x, y, z, w)) (hQ : ∀ k, 0 ≤ k → k ≤ σ p 0 → (k = 0 ∨ ¬ ge_lt (x, y, z, w) (jx_pt σ p (k - 1)) = true) → (∀ i, k ≤ i → i < σ p 0 → ge_lt (x, y, z, w) (jx_pt σ p i) = true) → jw_W (js_S n) D md_59 17 [some (.inr (.inr p)), some (.inl x), some (.inl y), some (.inl z), some (.inl w), some (.inl k), none] [] σ Q) : ∀ (f : Nat) {k : Int}, k = f → k ≤ σ p 0 → (∀ i, k ≤ i → i < σ p 0 → ge_lt (x, y, z, w) (jx_pt σ p i) = true) → jw_W (js_S n) D md_59 3 [some (.inr (.inr p)), some (.inl x), some (.inl y), some (.inl z), some (.inl w), some (.inl k), none] [] σ Q
  | f, k, hk, k1, H => by
    have ih : 0 < k → (∀ i, k - 1 ≤ i → i < σ p 0 → ge_lt (x, y, z, w) (jx_pt σ p i) = true) → jw_W (js_S n) D md_59 3 [some (.inr (.inr p)), some (.inl x), some (.inl y), some (.inl z), some (.inl w), some (.inl (k - 1)), none] [] σ Q := by
      intro h1 h2
      match f, hk with
      | 0, hk => omega
      | f + 1, hk => exact jx_ins_loop hp hD hm hb hv hQ f (by omega) (by omega) h2
    have ho := hp.1
    have k0 : 0 ≤ k := by omega
    refine jw_W_n 1 (i' := 4) (ls' := [some (.inr (.inr p)), some (.inl x), some (.inl y), some (.inl z), some (.inl w), some (.inl k), none]) (st' := [.inl k]) rfl ?_
    refine jw_W_if rfl (by unfold jw_rg; omega) (fun hc1 => ?_) (fun hc1 => ?_)
    · have hc1 : k ≤ 0 := hc1
      exact hQ k k0 k1 (by first | exact .inl (by omega) | exact .inr hah) H
    · have hc1 : ¬ (k ≤ 0) := hc1
      refine jw_W_n 8 (i' := 13) (ls' := [some (.inr (.inr p)), some (.inl x), some (.inl y), some (.inl z), some (.inl w), some (.inl k), none]) (st' := [.inl (k - 1), .inl w, .inl z, .inl y, .inl x, .inr (.inr p)]) rfl ?_
      refine jw_W_call (as := [.inr (.inr p), .inl x, .inl y, .inl z, .inl w, .inl (k - 1)]) (rest := []) rfl rfl rfl rfl (Nat.le_of_ble_eq_true rfl) (.inr (jx_rc hp.2.1)) (jx_isAhead hp (by omega) (by omega) hv.1 (hb (k - 1) (by omega) (by omega))) (by omega) ?_ rfl
      rintro r1 σ1 (⟨rfl, hs, hah⟩ | ⟨rfl, hs, hah⟩)
      · rw [hs]
        show jw_W (js_S n) _ md_59 14 [some (.inr (.inr p)), some (.inl x), some (.inl y), some (.inl z), some (.inl w), some (.inl k), none] [.inl 1] σ _
        refine jw_W_if rfl (by unfold jw_rg; omega) (fun hc2 => ?_) (fun hc2 => ?_)
        · exact absurd hc2 (show ¬ ((1 : Int) = 0) by omega)
        · clear hc2
          refine jw_W_n 2 (i' := 3) (ls' := [some (.inr (.inr p)), some (.inl x), some (.inl y), some (.inl z), some (.inl w), some (.inl (k + ((-1)))), none]) (st' := []) rfl ?_
          refine ih (by omega) (fun i i0 i1 => ?_)
          by_cases e : i = k - 1
          · rw [e]
            exact hah
          · exact H i (by omega) i1
      · rw [hs]
        show jw_W (js_S n) _ md_59 14 [some (.inr (.inr p)), some (.inl x), some (.inl y), some (.inl z), some (.inl w), some (.inl k), none] [.inl 0] σ _
        refine jw_W_if rfl (by unfold jw_rg; omega) (fun hc3 => ?_) (fun hc3 => ?_)
        · clear hc3
          exact hQ k k0 k1 (by first | exact .inl (by omega) | exact .inr hah) H
        · exact absurd hc3 (show ¬ ¬ ((0 : Int) = 0) by omega)
theorem jx_ins_rest {n : Nat} {σ : jw_H} {p : Nat} {x y z w k : Int} {P : List ge_R} (hp : jx_pp n p) (hl : jx_pl σ p P) (hso : jx_so P) (hok : ∀ u ∈ P, jx_ok u) (hv : jx_ok (x, y, z, w)) (hlen : P.length < 64) (k0 : 0 ≤ k) (k1 : k ≤ σ p 0) (h1 : k = 0 ∨ ¬ ge_lt (x, y, z, w) (jx_pt σ p (k - 1)) = true) (h2 : ∀ i, k ≤ i → i < σ p 0 → ge_lt (x, y, z, w) (jx_pt σ p i) = true) : jw_W (js_S n) 1 md_59 17 [some (.inr (.inr p)), some (.inl x), some (.inl y), some (.inl z), some (.inl w), some (.inl k), none] [] σ (fun r σ' => r = none ∧ jx_ir σ p P (x, y, z, w) σ') := by
  have ho := hp.1
  have hm := hl.1
  have hbk : k = 0 ∨ jx_bd (jx_pt σ p (k - 1)) := by
    by_cases e : k = 0
    · exact .inl e
    · refine .inr ?_
      have hg := List.getElem?_eq_getElem (l := P) (i := (k - 1).toNat) (by omega)
      have e1 := hl.2 _ _ hg
      rw [show (((k - 1).toNat : Nat) : Int) = k - 1 by omega] at e1
      rw [e1]
      exact (hok _ (List.getElem_mem _)).1
  simp only [jx_bd, jx_pt] at hbk
  obtain ⟨v1, v2, v3, v4⟩ := hv.1
  simp only at v1 v2 v3 v4
  refine jw_W_n 1 (i' := 18) (ls' := [some (.inr (.inr p)), some (.inl x), some (.inl y), some (.inl z), some (.inl w), some (.inl k), none]) (st' := [.inl k]) rfl ?_
  refine jw_W_if rfl (by unfold jw_rg; omega) (fun hc1 => ?_) (fun hc1 => ?_)
  · have hc1 : k ≤ 0 := hc1
    refine jw_W_n 3 (i' := 56) (ls' := [some (.inr (.inr p)), some (.inl x), some (.inl y), some (.inl z), some (.inl w), some (.inl k), some (.inl 0)]) (st' := [.inl 0]) rfl ?_
    refine jw_W_if rfl (by unfold jw_rg; omega) (fun hc2 => ?_) (fun hc2 => ?_)
    · exact absurd hc2 (show ¬ ((0 : Int) ≠ 0) by omega)
    · clear hc2
      refine jw_W_n 1 (i' := 58) (ls' := [some (.inr (.inr p)), some (.inl x), some (.inl y), some (.inl z), some (.inl w), some (.inl k), some (.inl 0)]) (st' := [.inr (.inr p)]) rfl ?_
      refine jw_W_gf rfl hp.2.1 rfl ?_
      show jw_W (js_S n) _ md_59 59 [some (.inr (.inr p)), some (.inl x), some (.inl y), some (.inl z), some (.inl w), some (.inl k), some (.inl 0)] [.inl (σ p 0)] σ _
      refine jw_W_n 1 (i' := 60) (ls' := [some (.inr (.inr p)), some (.inl x), some (.inl y), some (.inl z), some (.inl w), some (.inl k), some (.inl 0)]) (st' := [.inl 64, .inl (σ p 0)]) rfl ?_
      refine jw_W_ic rfl (by unfold jw_rg; omega) (by unfold jw_rg; omega) (fun hc3 => ?_) (fun hc3 => ?_)
      · have hc3 : (σ p 0) < 64 := hc3
        refine jw_W_n 2 (i' := 64) (ls' := [some (.inr (.inr p)), some (.inl x), some (.inl y), some (.inl z), some (.inl w), some (.inl k), some (.inl 0)]) (st' := [.inr (.inr p), .inr (.inr p)]) rfl ?_
        refine jw_W_gf rfl hp.2.1 rfl ?_
        show jw_W (js_S n) _ md_59 65 [some (.inr (.inr p)), some (.inl x), some (.inl y), some (.inl z), some (.inl w), some (.inl k), some (.inl 0)] [.inr (.inr (p + 1)), .inr (.inr p)] σ _
        refine jw_W_n 2 (i' := 67) (ls' := [some (.inr (.inr p)), some (.inl x), some (.inl y), some (.inl z), some (.inl w), some (.inl k), some (.inl 0)]) (st' := [.inl x, .inl k, .inr (.inr (p + 1)), .inr (.inr p)]) rfl ?_
        refine jw_W_call (as := [.inr (.inr p), .inr (.inr (p + 1)), .inl k, .inl x]) (rest := []) rfl rfl rfl rfl (Nat.le_of_ble_eq_true rfl) (.inr (jx_rc hp.2.1)) (jx_put hp hp.2.2.1 (by omega) k0 (by rw [(show σ p 0 = σ p 0 by rfl)]; exact k1) (by rw [(show σ p 0 = σ p 0 by rfl)]; omega)) (by omega) ?_ rfl
        rintro r1 σ1 ⟨rfl, hs⟩
        rw [hs, (show σ p 0 = σ p 0 by rfl)]
        show jw_W (js_S n) _ md_59 68 [some (.inr (.inr p)), some (.inl x), some (.inl y), some (.inl z), some (.inl w), some (.inl k), some (.inl 0)] [] ((jx_pf1 σ (p + 1) k (σ p 0) x)) _
        refine jw_W_n 2 (i' := 70) (ls' := [some (.inr (.inr p)), some (.inl x), some (.inl y), some (.inl z), some (.inl w), some (.inl k), some (.inl 0)]) (st' := [.inr (.inr p), .inr (.inr p)]) rfl ?_
        refine jw_W_gf rfl hp.2.1 rfl ?_
        show jw_W (js_S n) _ md_59 71 [some (.inr (.inr p)), some (.inl x), some (.inl y), some (.inl z), some (.inl w), some (.inl k), some (.inl 0)] [.inr (.inr (p + 2)), .inr (.inr p)] ((jx_pf1 σ (p + 1) k (σ p 0) x)) _
        refine jw_W_n 2 (i' := 73) (ls' := [some (.inr (.inr p)), some (.inl x), some (.inl y), some (.inl z), some (.inl w), some (.inl k), some (.inl 0)]) (st' := [.inl y, .inl k, .inr (.inr (p + 2)), .inr (.inr p)]) rfl ?_
        refine jw_W_call (as := [.inr (.inr p), .inr (.inr (p + 2)), .inl k, .inl y]) (rest := []) rfl rfl rfl rfl (Nat.le_of_ble_eq_true rfl) (.inr (jx_rc hp.2.1)) (jx_put hp hp.2.2.2.1 (by omega) k0 (by rw [(show (jx_pf1 σ (p + 1) k (σ p 0) x) p 0 = σ p 0 by rw [jx_pf1_o _ _ _ _ (by omega)])]; exact k1) (by rw [(show (jx_pf1 σ (p + 1) k (σ p 0) x) p 0 = σ p 0 by rw [jx_pf1_o _ _ _ _ (by omega)])]; omega)) (by omega) ?_ rfl
        rintro r1 σ1 ⟨rfl, hs⟩
        rw [hs, (show (jx_pf1 σ (p + 1) k (σ p 0) x) p 0 = σ p 0 by rw [jx_pf1_o _ _ _ _ (by omega)])]
        show jw_W (js_S n) _ md_59 74 [some (.inr (.inr p)), some (.inl x), some (.inl y), some (.inl z), some (.inl w), some (.inl k), some (.inl 0)] [] ((jx_pf1 (jx_pf1 σ (p + 1) k (σ p 0) x) (p + 2) k (σ p 0) y)) _
        refine jw_W_n 2 (i' := 76) (ls' := [some (.inr (.inr p)), some (.inl x), some (.inl y), some (.inl z), some (.inl w), some (.inl k), some (.inl 0)]) (st' := [.inr (.inr p), .inr (.inr p)]) rfl ?_
        refine jw_W_gf rfl hp.2.1 rfl ?_
        show jw_W (js_S n) _ md_59 77 [some (.inr (.inr p)), some (.inl x), some (.inl y), some (.inl z), some (.inl w), some (.inl k), some (.inl 0)] [.inr (.inr (p + 3)), .inr (.inr p)] ((jx_pf1 (jx_pf1 σ (p + 1) k (σ p 0) x) (p + 2) k (σ p 0) y)) _
        refine jw_W_n 2 (i' := 79) (ls' := [some (.inr (.inr p)), some (.inl x), some (.inl y), some (.inl z), some (.inl w), some (.inl k), some (.inl 0)]) (st' := [.inl z, .inl k, .inr (.inr (p + 3)), .inr (.inr p)]) rfl ?_
        refine jw_W_call (as := [.inr (.inr p), .inr (.inr (p + 3)), .inl k, .inl z]) (rest := []) rfl rfl rfl rfl (Nat.le_of_ble_eq_true rfl) (.inr (jx_rc hp.2.1)) (jx_put hp hp.2.2.2.2.1 (by omega) k0 (by rw [(show (jx_pf1 (jx_pf1 σ (p + 1) k (σ p 0) x) (p + 2) k (σ p 0) y) p 0 = σ p 0 by rw [jx_pf1_o _ _ _ _ (by omega), jx_pf1_o _ _ _ _ (by omega)])]; exact k1) (by rw [(show (jx_pf1 (jx_pf1 σ (p + 1) k (σ p 0) x) (p + 2) k (σ p 0) y) p 0 = σ p 0 by rw [jx_pf1_o _ _ _ _ (by omega), jx_pf1_o _ _ _ _ (by omega)])]; omega)) (by omega) ?_ rfl
        rintro r1 σ1 ⟨rfl, hs⟩
        rw [hs, (show (jx_pf1 (jx_pf1 σ (p + 1) k (σ p 0) x) (p + 2) k (σ p 0) y) p 0 = σ p 0 by rw [jx_pf1_o _ _ _ _ (by omega), jx_pf1_o _ _ _ _ (by omega)])]
        show jw_W (js_S n) _ md_59 80 [some (.inr (.inr p)), some (.inl x), some (.inl y), some (.inl z), some (.inl w), some (.inl k), some (.inl 0)] [] ((jx_pf1 (jx_pf1 (jx_pf1 σ (p + 1) k (σ p 0) x) (p + 2) k (σ p 0) y) (p + 3) k (σ p 0) z)) _
        refine jw_W_n 2 (i' := 82) (ls' := [some (.inr (.inr p)), some (.inl x), some (.inl y), some (.inl z), some (.inl w), some (.inl k), some (.inl 0)]) (st' := [.inr (.inr p), .inr (.inr p)]) rfl ?_
        refine jw_W_gf rfl hp.2.1 rfl ?_
        show jw_W (js_S n) _ md_59 83 [some (.inr (.inr p)), some (.inl x), some (.inl y), some (.inl z), some (.inl w), some (.inl k), some (.inl 0)] [.inr (.inr (p + 4)), .inr (.inr p)] ((jx_pf1 (jx_pf1 (jx_pf1 σ (p + 1) k (σ p 0) x) (p + 2) k (σ p 0) y) (p + 3) k (σ p 0) z)) _
        refine jw_W_n 2 (i' := 85) (ls' := [some (.inr (.inr p)), some (.inl x), some (.inl y), some (.inl z), some (.inl w), some (.inl k), some (.inl 0)]) (st' := [.inl w, .inl k, .inr (.inr (p + 4)), .inr (.inr p)]) rfl ?_
        refine jw_W_call (as := [.inr (.inr p), .inr (.inr (p + 4)), .inl k, .inl w]) (rest := []) rfl rfl rfl rfl (Nat.le_of_ble_eq_true rfl) (.inr (jx_rc hp.2.1)) (jx_put hp hp.2.2.2.2.2 (by omega) k0 (by rw [(show (jx_pf1 (jx_pf1 (jx_pf1 σ (p + 1) k (σ p 0) x) (p + 2) k (σ p 0) y) (p + 3) k (σ p 0) z) p 0 = σ p 0 by rw [jx_pf1_o _ _ _ _ (by omega), jx_pf1_o _ _ _ _ (by omega), jx_pf1_o _ _ _ _ (by omega)])]; exact k1) (by rw [(show (jx_pf1 (jx_pf1 (jx_pf1 σ (p + 1) k (σ p 0) x) (p + 2) k (σ p 0) y) (p + 3) k (σ p 0) z) p 0 = σ p 0 by rw [jx_pf1_o _ _ _ _ (by omega), jx_pf1_o _ _ _ _ (by omega), jx_pf1_o _ _ _ _ (by omega)])]; omega)) (by omega) ?_ rfl
        rintro r1 σ1 ⟨rfl, hs⟩
        rw [hs, (show (jx_pf1 (jx_pf1 (jx_pf1 σ (p + 1) k (σ p 0) x) (p + 2) k (σ p 0) y) (p + 3) k (σ p 0) z) p 0 = σ p 0 by rw [jx_pf1_o _ _ _ _ (by omega), jx_pf1_o _ _ _ _ (by omega), jx_pf1_o _ _ _ _ (by omega)])]
        show jw_W (js_S n) _ md_59 86 [some (.inr (.inr p)), some (.inl x), some (.inl y), some (.inl z), some (.inl w), some (.inl k), some (.inl 0)] [] ((jx_pf1 (jx_pf1 (jx_pf1 (jx_pf1 σ (p + 1) k (σ p 0) x) (p + 2) k (σ p 0) y) (p + 3) k (σ p 0) z) (p + 4) k (σ p 0) w)) _
        refine jw_W_n 2 (i' := 88) (ls' := [some (.inr (.inr p)), some (.inl x), some (.inl y), some (.inl z), some (.inl w), some (.inl k), some (.inl 0)]) (st' := [.inr (.inr p), .inr (.inr p)]) rfl ?_
        refine jw_W_gf rfl hp.2.1 rfl ?_
        show jw_W (js_S n) _ md_59 89 [some (.inr (.inr p)), some (.inl x), some (.inl y), some (.inl z), some (.inl w), some (.inl k), some (.inl 0)] [.inl ((jx_pf1 (jx_pf1 (jx_pf1 (jx_pf1 σ (p + 1) k (σ p 0) x) (p + 2) k (σ p 0) y) (p + 3) k (σ p 0) z) (p + 4) k (σ p 0) w) p 0), .inr (.inr p)] ((jx_pf1 (jx_pf1 (jx_pf1 (jx_pf1 σ (p + 1) k (σ p 0) x) (p + 2) k (σ p 0) y) (p + 3) k (σ p 0) z) (p + 4) k (σ p 0) w)) _
        refine jw_W_n 2 (i' := 91) (ls' := [some (.inr (.inr p)), some (.inl x), some (.inl y), some (.inl z), some (.inl w), some (.inl k), some (.inl 0)]) (st' := [.inl (((jx_pf1 (jx_pf1 (jx_pf1 (jx_pf1 σ (p + 1) k (σ p 0) x) (p + 2) k (σ p 0) y) (p + 3) k (σ p 0) z) (p + 4) k (σ p 0) w) p 0) + 1), .inr (.inr p)]) rfl ?_
        refine jw_W_pf (a := ((jx_pf1 (jx_pf1 (jx_pf1 (jx_pf1 σ (p + 1) k (σ p 0) x) (p + 2) k (σ p 0) y) (p + 3) k (σ p 0) z) (p + 4) k (σ p 0) w) p 0) + 1) rfl (by omega) hp.2.1 rfl rfl rfl rfl ?_
        refine jw_W_re rfl ?_
        have hz : jw_up (jx_i4 σ p k (x, y, z, w)) p 0 (σ p 0 + 1) = (jw_up (jx_pf1 (jx_pf1 (jx_pf1 (jx_pf1 σ (p + 1) k (σ p 0) x) (p + 2) k (σ p 0) y) (p + 3) k (σ p 0) z) (p + 4) k (σ p 0) w) p 0 (((jx_pf1 (jx_pf1 (jx_pf1 (jx_pf1 σ (p + 1) k (σ p 0) x) (p + 2) k (σ p 0) y) (p + 3) k (σ p 0) z) (p + 4) k (σ p 0) w) p 0) + 1)) := by
                rw [show (jx_pf1 (jx_pf1 (jx_pf1 (jx_pf1 σ (p + 1) k (σ p 0) x) (p + 2) k (σ p 0) y) (p + 3) k (σ p 0) z) (p + 4) k (σ p 0) w) p 0 = σ p 0 from by rw [jx_pf1_o _ _ _ _ (by omega), jx_pf1_o _ _ _ _ (by omega), jx_pf1_o _ _ _ _ (by omega), jx_pf1_o _ _ _ _ (by omega)]]
                rfl
        refine ⟨rfl, ?_⟩
        show jx_ir σ p P (x, y, z, w) (jw_up (jx_pf1 (jx_pf1 (jx_pf1 (jx_pf1 σ (p + 1) k (σ p 0) x) (p + 2) k (σ p 0) y) (p + 3) k (σ p 0) z) (p + 4) k (σ p 0) w) p 0 (((jx_pf1 (jx_pf1 (jx_pf1 (jx_pf1 σ (p + 1) k (σ p 0) x) (p + 2) k (σ p 0) y) (p + 3) k (σ p 0) z) (p + 4) k (σ p 0) w) p 0) + 1))
        rw [← hz]
        exact jx_ir_new hl hso hok hv k0 k1 h1 h2 (by first | exact .inl (by omega) | exact .inr (fun hh => by simp only [jx_pt, Prod.mk.injEq] at hh; omega))
      · have hc3 : ¬ ((σ p 0) < 64) := hc3
        refine jw_W_re rfl ?_
        first | omega | exact ⟨rfl, jx_ir_there hl hso (i := (k - 1).toNat) (by omega) (by rw [show (((k - 1).toNat : Nat) : Int) = k - 1 by omega]; simp only [jx_pt, Prod.mk.injEq]; omega)⟩
  · have hc1 : ¬ (k ≤ 0) := hc1
    refine jw_W_n 1 (i' := 20) (ls' := [some (.inr (.inr p)), some (.inl x), some (.inl y), some (.inl z), some (.inl w), some (.inl k), none]) (st' := [.inr (.inr p)]) rfl ?_
    refine jw_W_gf rfl hp.2.1 rfl ?_
    show jw_W (js_S n) _ md_59 21 [some (.inr (.inr p)), some (.inl x), some (.inl y), some (.inl z), some (.inl w), some (.inl k), none] [.inr (.inr (p + 1))] σ _
    refine jw_W_n 3 (i' := 24) (ls' := [some (.inr (.inr p)), some (.inl x), some (.inl y), some (.inl z), some (.inl w), some (.inl k), none]) (st' := [.inl (k - 1), .inr (.inr (p + 1))]) rfl ?_
    refine jw_W_ia rfl hp.2.2.1 (by omega) (by omega) (by omega) ?_
    show jw_W (js_S n) _ md_59 25 [some (.inr (.inr p)), some (.inl x), some (.inl y), some (.inl z), some (.inl w), some (.inl k), none] [.inl (σ (p + 1) (k - 1))] σ _
    refine jw_W_n 1 (i' := 26) (ls' := [some (.inr (.inr p)), some (.inl x), some (.inl y), some (.inl z), some (.inl w), some (.inl k), none]) (st' := [.inl x, .inl (σ (p + 1) (k - 1))]) rfl ?_
    refine jw_W_ic rfl (by unfold jw_rg; omega) (by unfold jw_rg; omega) (fun hc4 => ?_) (fun hc4 => ?_)
    · have hc4 : (σ (p + 1) (k - 1)) ≠ x := hc4
      refine jw_W_n 3 (i' := 56) (ls' := [some (.inr (.inr p)), some (.inl x), some (.inl y), some (.inl z), some (.inl w), some (.inl k), some (.inl 0)]) (st' := [.inl 0]) rfl ?_
      refine jw_W_if rfl (by unfold jw_rg; omega) (fun hc5 => ?_) (fun hc5 => ?_)
      · exact absurd hc5 (show ¬ ((0 : Int) ≠ 0) by omega)
      · clear hc5
        refine jw_W_n 1 (i' := 58) (ls' := [some (.inr (.inr p)), some (.inl x), some (.inl y), some (.inl z), some (.inl w), some (.inl k), some (.inl 0)]) (st' := [.inr (.inr p)]) rfl ?_
        refine jw_W_gf rfl hp.2.1 rfl ?_
        show jw_W (js_S n) _ md_59 59 [some (.inr (.inr p)), some (.inl x), some (.inl y), some (.inl z), some (.inl w), some (.inl k), some (.inl 0)] [.inl (σ p 0)] σ _
        refine jw_W_n 1 (i' := 60) (ls' := [some (.inr (.inr p)), some (.inl x), some (.inl y), some (.inl z), some (.inl w), some (.inl k), some (.inl 0)]) (st' := [.inl 64, .inl (σ p 0)]) rfl ?_
        refine jw_W_ic rfl (by unfold jw_rg; omega) (by unfold jw_rg; omega) (fun hc6 => ?_) (fun hc6 => ?_)
        · have hc6 : (σ p 0) < 64 := hc6
          refine jw_W_n 2 (i' := 64) (ls' := [some (.inr (.inr p)), some (.inl x), some (.inl y), some (.inl z), some (.inl w), some (.inl k), some (.inl 0)]) (st' := [.inr (.inr p), .inr (.inr p)]) rfl ?_
          refine jw_W_gf rfl hp.2.1 rfl ?_
          show jw_W (js_S n) _ md_59 65 [some (.inr (.inr p)), some (.inl x), some (.inl y), some (.inl z), some (.inl w), some (.inl k), some (.inl 0)] [.inr (.inr (p + 1)), .inr (.inr p)] σ _
          refine jw_W_n 2 (i' := 67) (ls' := [some (.inr (.inr p)), some (.inl x), some (.inl y), some (.inl z), some (.inl w), some (.inl k), some (.inl 0)]) (st' := [.inl x, .inl k, .inr (.inr (p + 1)), .inr (.inr p)]) rfl ?_
          refine jw_W_call (as := [.inr (.inr p), .inr (.inr (p + 1)), .inl k, .inl x]) (rest := []) rfl rfl rfl rfl (Nat.le_of_ble_eq_true rfl) (.inr (jx_rc hp.2.1)) (jx_put hp hp.2.2.1 (by omega) k0 (by rw [(show σ p 0 = σ p 0 by rfl)]; exact k1) (by rw [(show σ p 0 = σ p 0 by rfl)]; omega)) (by omega) ?_ rfl
          rintro r1 σ1 ⟨rfl, hs⟩
          rw [hs, (show σ p 0 = σ p 0 by rfl)]
          show jw_W (js_S n) _ md_59 68 [some (.inr (.inr p)), some (.inl x), some (.inl y), some (.inl z), some (.inl w), some (.inl k), some (.inl 0)] [] ((jx_pf1 σ (p + 1) k (σ p 0) x)) _
          refine jw_W_n 2 (i' := 70) (ls' := [some (.inr (.inr p)), some (.inl x), some (.inl y), some (.inl z), some (.inl w), some (.inl k), some (.inl 0)]) (st' := [.inr (.inr p), .inr (.inr p)]) rfl ?_
          refine jw_W_gf rfl hp.2.1 rfl ?_
          show jw_W (js_S n) _ md_59 71 [some (.inr (.inr p)), some (.inl x), some (.inl y), some (.inl z), some (.inl w), some (.inl k), some (.inl 0)] [.inr (.inr (p + 2)), .inr (.inr p)] ((jx_pf1 σ (p + 1) k (σ p 0) x)) _
          refine jw_W_n 2 (i' := 73) (ls' := [some (.inr (.inr p)), some (.inl x), some (.inl y), some (.inl z), some (.inl w), some (.inl k), some (.inl 0)]) (st' := [.inl y, .inl k, .inr (.inr (p + 2)), .inr (.inr p)]) rfl ?_
          refine jw_W_call (as := [.inr (.inr p), .inr (.inr (p + 2)), .inl k, .inl y]) (rest := []) rfl rfl rfl rfl (Nat.le_of_ble_eq_true rfl) (.inr (jx_rc hp.2.1)) (jx_put hp hp.2.2.2.1 (by omega) k0 (by rw [(show (jx_pf1 σ (p + 1) k (σ p 0) x) p 0 = σ p 0 by rw [jx_pf1_o _ _ _ _ (by omega)])]; exact k1) (by rw [(show (jx_pf1 σ (p + 1) k (σ p 0) x) p 0 = σ p 0 by rw [jx_pf1_o _ _ _ _ (by omega)])]; omega)) (by omega) ?_ rfl
          rintro r1 σ1 ⟨rfl, hs⟩
          rw [hs, (show (jx_pf1 σ (p + 1) k (σ p 0) x) p 0 = σ p 0 by rw [jx_pf1_o _ _ _ _ (by omega)])]
          show jw_W (js_S n) _ md_59 74 [some (.inr (.inr p)), some (.inl x), some (.inl y), some (.inl z), some (.inl w), some (.inl k), some (.inl 0)] [] ((jx_pf1 (jx_pf1 σ (p + 1) k (σ p 0) x) (p + 2) k (σ p 0) y)) _
          refine jw_W_n 2 (i' := 76) (ls' := [some (.inr (.inr p)), some (.inl x), some (.inl y), some (.inl z), some (.inl w), some (.inl k), some (.inl 0)]) (st' := [.inr (.inr p), .inr (.inr p)]) rfl ?_
          refine jw_W_gf rfl hp.2.1 rfl ?_
          show jw_W (js_S n) _ md_59 77 [some (.inr (.inr p)), some (.inl x), some (.inl y), some (.inl z), some (.inl w), some (.inl k), some (.inl 0)] [.inr (.inr (p + 3)), .inr (.inr p)] ((jx_pf1 (jx_pf1 σ (p + 1) k (σ p 0) x) (p + 2) k (σ p 0) y)) _
          refine jw_W_n 2 (i' := 79) (ls' := [some (.inr (.inr p)), some (.inl x), some (.inl y), some (.inl z), some (.inl w), some (.inl k), some (.inl 0)]) (st' := [.inl z, .inl k, .inr (.inr (p + 3)), .inr (.inr p)]) rfl ?_
          refine jw_W_call (as := [.inr (.inr p), .inr (.inr (p + 3)), .inl k, .inl z]) (rest := []) rfl rfl rfl rfl (Nat.le_of_ble_eq_true rfl) (.inr (jx_rc hp.2.1)) (jx_put hp hp.2.2.2.2.1 (by omega) k0 (by rw [(show (jx_pf1 (jx_pf1 σ (p + 1) k (σ p 0) x) (p + 2) k (σ p 0) y) p 0 = σ p 0 by rw [jx_pf1_o _ _ _ _ (by omega), jx_pf1_o _ _ _ _ (by omega)])]; exact k1) (by rw [(show (jx_pf1 (jx_pf1 σ (p + 1) k (σ p 0) x) (p + 2) k (σ p 0) y) p 0 = σ p 0 by rw [jx_pf1_o _ _ _ _ (by omega), jx_pf1_o _ _ _ _ (by omega)])]; omega)) (by omega) ?_ rfl
          rintro r1 σ1 ⟨rfl, hs⟩
          rw [hs, (show (jx_pf1 (jx_pf1 σ (p + 1) k (σ p 0) x) (p + 2) k (σ p 0) y) p 0 = σ p 0 by rw [jx_pf1_o _ _ _ _ (by omega), jx_pf1_o _ _ _ _ (by omega)])]
          show jw_W (js_S n) _ md_59 80 [some (.inr (.inr p)), some (.inl x), some (.inl y), some (.inl z), some (.inl w), some (.inl k), some (.inl 0)] [] ((jx_pf1 (jx_pf1 (jx_pf1 σ (p + 1) k (σ p 0) x) (p + 2) k (σ p 0) y) (p + 3) k (σ p 0) z)) _
          refine jw_W_n 2 (i' := 82) (ls' := [some (.inr (.inr p)), some (.inl x), some (.inl y), some (.inl z), some (.inl w), some (.inl k), some (.inl 0)]) (st' := [.inr (.inr p), .inr (.inr p)]) rfl ?_
          refine jw_W_gf rfl hp.2.1 rfl ?_
          show jw_W (js_S n) _ md_59 83 [some (.inr (.inr p)), some (.inl x), some (.inl y), some (.inl z), some (.inl w), some (.inl k), some (.inl 0)] [.inr (.inr (p + 4)), .inr (.inr p)] ((jx_pf1 (jx_pf1 (jx_pf1 σ (p + 1) k (σ p 0) x) (p + 2) k (σ p 0) y) (p + 3) k (σ p 0) z)) _
          refine jw_W_n 2 (i' := 85) (ls' := [some (.inr (.inr p)), some (.inl x), some (.inl y), some (.inl z), some (.inl w), some (.inl k), some (.inl 0)]) (st' := [.inl w, .inl k, .inr (.inr (p + 4)), .inr (.inr p)]) rfl ?_
          refine jw_W_call (as := [.inr (.inr p), .inr (.inr (p + 4)), .inl k, .inl w]) (rest := []) rfl rfl rfl rfl (Nat.le_of_ble_eq_true rfl) (.inr (jx_rc hp.2.1)) (jx_put hp hp.2.2.2.2.2 (by omega) k0 (by rw [(show (jx_pf1 (jx_pf1 (jx_pf1 σ (p + 1) k (σ p 0) x) (p + 2) k (σ p 0) y) (p + 3) k (σ p 0) z) p 0 = σ p 0 by rw [jx_pf1_o _ _ _ _ (by omega), jx_pf1_o _ _ _ _ (by omega), jx_pf1_o _ _ _ _ (by omega)])]; exact k1) (by rw [(show (jx_pf1 (jx_pf1 (jx_pf1 σ (p + 1) k (σ p 0) x) (p + 2) k (σ p 0) y) (p + 3) k (σ p 0) z) p 0 = σ p 0 by rw [jx_pf1_o _ _ _ _ (by omega), jx_pf1_o _ _ _ _ (by omega), jx_pf1_o _ _ _ _ (by omega)])]; omega)) (by omega) ?_ rfl
          rintro r1 σ1 ⟨rfl, hs⟩
          rw [hs, (show (jx_pf1 (jx_pf1 (jx_pf1 σ (p + 1) k (σ p 0) x) (p + 2) k (σ p 0) y) (p + 3) k (σ p 0) z) p 0 = σ p 0 by rw [jx_pf1_o _ _ _ _ (by omega), jx_pf1_o _ _ _ _ (by omega), jx_pf1_o _ _ _ _ (by omega)])]
          show jw_W (js_S n) _ md_59 86 [some (.inr (.inr p)), some (.inl x), some (.inl y), some (.inl z), some (.inl w), some (.inl k), some (.inl 0)] [] ((jx_pf1 (jx_pf1 (jx_pf1 (jx_pf1 σ (p + 1) k (σ p 0) x) (p + 2) k (σ p 0) y) (p + 3) k (σ p 0) z) (p + 4) k (σ p 0) w)) _
          refine jw_W_n 2 (i' := 88) (ls' := [some (.inr (.inr p)), some (.inl x), some (.inl y), some (.inl z), some (.inl w), some (.inl k), some (.inl 0)]) (st' := [.inr (.inr p), .inr (.inr p)]) rfl ?_
          refine jw_W_gf rfl hp.2.1 rfl ?_
          show jw_W (js_S n) _ md_59 89 [some (.inr (.inr p)), some (.inl x), some (.inl y), some (.inl z), some (.inl w), some (.inl k), some (.inl 0)] [.inl ((jx_pf1 (jx_pf1 (jx_pf1 (jx_pf1 σ (p + 1) k (σ p 0) x) (p + 2) k (σ p 0) y) (p + 3) k (σ p 0) z) (p + 4) k (σ p 0) w) p 0), .inr (.inr p)] ((jx_pf1 (jx_pf1 (jx_pf1 (jx_pf1 σ (p + 1) k (σ p 0) x) (p + 2) k (σ p 0) y) (p + 3) k (σ p 0) z) (p + 4) k (σ p 0) w)) _
          refine jw_W_n 2 (i' := 91) (ls' := [some (.inr (.inr p)), some (.inl x), some (.inl y), some (.inl z), some (.inl w), some (.inl k), some (.inl 0)]) (st' := [.inl (((jx_pf1 (jx_pf1 (jx_pf1 (jx_pf1 σ (p + 1) k (σ p 0) x) (p + 2) k (σ p 0) y) (p + 3) k (σ p 0) z) (p + 4) k (σ p 0) w) p 0) + 1), .inr (.inr p)]) rfl ?_
          refine jw_W_pf (a := ((jx_pf1 (jx_pf1 (jx_pf1 (jx_pf1 σ (p + 1) k (σ p 0) x) (p + 2) k (σ p 0) y) (p + 3) k (σ p 0) z) (p + 4) k (σ p 0) w) p 0) + 1) rfl (by omega) hp.2.1 rfl rfl rfl rfl ?_
          refine jw_W_re rfl ?_
          have hz : jw_up (jx_i4 σ p k (x, y, z, w)) p 0 (σ p 0 + 1) = (jw_up (jx_pf1 (jx_pf1 (jx_pf1 (jx_pf1 σ (p + 1) k (σ p 0) x) (p + 2) k (σ p 0) y) (p + 3) k (σ p 0) z) (p + 4) k (σ p 0) w) p 0 (((jx_pf1 (jx_pf1 (jx_pf1 (jx_pf1 σ (p + 1) k (σ p 0) x) (p + 2) k (σ p 0) y) (p + 3) k (σ p 0) z) (p + 4) k (σ p 0) w) p 0) + 1)) := by
                    rw [show (jx_pf1 (jx_pf1 (jx_pf1 (jx_pf1 σ (p + 1) k (σ p 0) x) (p + 2) k (σ p 0) y) (p + 3) k (σ p 0) z) (p + 4) k (σ p 0) w) p 0 = σ p 0 from by rw [jx_pf1_o _ _ _ _ (by omega), jx_pf1_o _ _ _ _ (by omega), jx_pf1_o _ _ _ _ (by omega), jx_pf1_o _ _ _ _ (by omega)]]
                    rfl
          refine ⟨rfl, ?_⟩
          show jx_ir σ p P (x, y, z, w) (jw_up (jx_pf1 (jx_pf1 (jx_pf1 (jx_pf1 σ (p + 1) k (σ p 0) x) (p + 2) k (σ p 0) y) (p + 3) k (σ p 0) z) (p + 4) k (σ p 0) w) p 0 (((jx_pf1 (jx_pf1 (jx_pf1 (jx_pf1 σ (p + 1) k (σ p 0) x) (p + 2) k (σ p 0) y) (p + 3) k (σ p 0) z) (p + 4) k (σ p 0) w) p 0) + 1))
          rw [← hz]
          exact jx_ir_new hl hso hok hv k0 k1 h1 h2 (by first | exact .inl (by omega) | exact .inr (fun hh => by simp only [jx_pt, Prod.mk.injEq] at hh; omega))
        · have hc6 : ¬ ((σ p 0) < 64) := hc6
          refine jw_W_re rfl ?_
          first | omega | exact ⟨rfl, jx_ir_there hl hso (i := (k - 1).toNat) (by omega) (by rw [show (((k - 1).toNat : Nat) : Int) = k - 1 by omega]; simp only [jx_pt, Prod.mk.injEq]; omega)⟩
    · have hc4 : (σ (p + 1) (k - 1)) = x := Classical.not_not.mp hc4
      refine jw_W_n 1 (i' := 28) (ls' := [some (.inr (.inr p)), some (.inl x), some (.inl y), some (.inl z), some (.inl w), some (.inl k), none]) (st' := [.inr (.inr p)]) rfl ?_
      refine jw_W_gf rfl hp.2.1 rfl ?_
      show jw_W (js_S n) _ md_59 29 [some (.inr (.inr p)), some (.inl x), some (.inl y), some (.inl z), some (.inl w), some (.inl k), none] [.inr (.inr (p + 2))] σ _
      refine jw_W_n 3 (i' := 32) (ls' := [some (.inr (.inr p)), some (.inl x), some (.inl y), some (.inl z), some (.inl w), some (.inl k), none]) (st' := [.inl (k - 1), .inr (.inr (p + 2))]) rfl ?_
      refine jw_W_ia rfl hp.2.2.2.1 (by omega) (by omega) (by omega) ?_
      show jw_W (js_S n) _ md_59 33 [some (.inr (.inr p)), some (.inl x), some (.inl y), some (.inl z), some (.inl w), some (.inl k), none] [.inl (σ (p + 2) (k - 1))] σ _
      refine jw_W_n 1 (i' := 34) (ls' := [some (.inr (.inr p)), some (.inl x), some (.inl y), some (.inl z), some (.inl w), some (.inl k), none]) (st' := [.inl y, .inl (σ (p + 2) (k - 1))]) rfl ?_
      refine jw_W_ic rfl (by unfold jw_rg; omega) (by unfold jw_rg; omega) (fun hc7 => ?_) (fun hc7 => ?_)
      · have hc7 : (σ (p + 2) (k - 1)) ≠ y := hc7
        refine jw_W_n 3 (i' := 56) (ls' := [some (.inr (.inr p)), some (.inl x), some (.inl y), some (.inl z), some (.inl w), some (.inl k), some (.inl 0)]) (st' := [.inl 0]) rfl ?_
        refine jw_W_if rfl (by unfold jw_rg; omega) (fun hc8 => ?_) (fun hc8 => ?_)
        · exact absurd hc8 (show ¬ ((0 : Int) ≠ 0) by omega)
        · clear hc8
          refine jw_W_n 1 (i' := 58) (ls' := [some (.inr (.inr p)), some (.inl x), some (.inl y), some (.inl z), some (.inl w), some (.inl k), some (.inl 0)]) (st' := [.inr (.inr p)]) rfl ?_
          refine jw_W_gf rfl hp.2.1 rfl ?_
          show jw_W (js_S n) _ md_59 59 [some (.inr (.inr p)), some (.inl x), some (.inl y), some (.inl z), some (.inl w), some (.inl k), some (.inl 0)] [.inl (σ p 0)] σ _
          refine jw_W_n 1 (i' := 60) (ls' := [some (.inr (.inr p)), some (.inl x), some (.inl y), some (.inl z), some (.inl w), some (.inl k), some (.inl 0)]) (st' := [.inl 64, .inl (σ p 0)]) rfl ?_
          refine jw_W_ic rfl (by unfold jw_rg; omega) (by unfold jw_rg; omega) (fun hc9 => ?_) (fun hc9 => ?_)
          · have hc9 : (σ p 0) < 64 := hc9
            refine jw_W_n 2 (i' := 64) (ls' := [some (.inr (.inr p)), some (.inl x), some (.inl y), some (.inl z), some (.inl w), some (.inl k), some (.inl 0)]) (st' := [.inr (.inr p), .inr (.inr p)]) rfl ?_
            refine jw_W_gf rfl hp.2.1 rfl ?_
            show jw_W (js_S n) _ md_59 65 [some (.inr (.inr p)), some (.inl x), some (.inl y), some (.inl z), some (.inl w), some (.inl k), some (.inl 0)] [.inr (.inr (p + 1)), .inr (.inr p)] σ _
            refine jw_W_n 2 (i' := 67) (ls' := [some (.inr (.inr p)), some (.inl x), some (.inl y), some (.inl z), some (.inl w), some (.inl k), some (.inl 0)]) (st' := [.inl x, .inl k, .inr (.inr (p + 1)), .inr (.inr p)]) rfl ?_
            refine jw_W_call (as := [.inr (.inr p), .inr (.inr (p + 1)), .inl k, .inl x]) (rest := []) rfl rfl rfl rfl (Nat.le_of_ble_eq_true rfl) (.inr (jx_rc hp.2.1)) (jx_put hp hp.2.2.1 (by omega) k0 (by rw [(show σ p 0 = σ p 0 by rfl)]; exact k1) (by rw [(show σ p 0 = σ p 0 by rfl)]; omega)) (by omega) ?_ rfl
            rintro r1 σ1 ⟨rfl, hs⟩
            rw [hs, (show σ p 0 = σ p 0 by rfl)]
            show jw_W (js_S n) _ md_59 68 [some (.inr (.inr p)), some (.inl x), some (.inl y), some (.inl z), some (.inl w), some (.inl k), some (.inl 0)] [] ((jx_pf1 σ (p + 1) k (σ p 0) x)) _
            refine jw_W_n 2 (i' := 70) (ls' := [some (.inr (.inr p)), some (.inl x), some (.inl y), some (.inl z), some (.inl w), some (.inl k), some (.inl 0)]) (st' := [.inr (.inr p), .inr (.inr p)]) rfl ?_
            refine jw_W_gf rfl hp.2.1 rfl ?_
            show jw_W (js_S n) _ md_59 71 [some (.inr (.inr p)), some (.inl x), some (.inl y), some (.inl z), some (.inl w), some (.inl k), some (.inl 0)] [.inr (.inr (p + 2)), .inr (.inr p)] ((jx_pf1 σ (p + 1) k (σ p 0) x)) _
            refine jw_W_n 2 (i' := 73) (ls' := [some (.inr (.inr p)), some (.inl x), some (.inl y), some (.inl z), some (.inl w), some (.inl k), some (.inl 0)]) (st' := [.inl y, .inl k, .inr (.inr (p + 2)), .inr (.inr p)]) rfl ?_
            refine jw_W_call (as := [.inr (.inr p), .inr (.inr (p + 2)), .inl k, .inl y]) (rest := []) rfl rfl rfl rfl (Nat.le_of_ble_eq_true rfl) (.inr (jx_rc hp.2.1)) (jx_put hp hp.2.2.2.1 (by omega) k0 (by rw [(show (jx_pf1 σ (p + 1) k (σ p 0) x) p 0 = σ p 0 by rw [jx_pf1_o _ _ _ _ (by omega)])]; exact k1) (by rw [(show (jx_pf1 σ (p + 1) k (σ p 0) x) p 0 = σ p 0 by rw [jx_pf1_o _ _ _ _ (by omega)])]; omega)) (by omega) ?_ rfl
            rintro r1 σ1 ⟨rfl, hs⟩
            rw [hs, (show (jx_pf1 σ (p + 1) k (σ p 0) x) p 0 = σ p 0 by rw [jx_pf1_o _ _ _ _ (by omega)])]
            show jw_W (js_S n) _ md_59 74 [some (.inr (.inr p)), some (.inl x), some (.inl y), some (.inl z), some (.inl w), some (.inl k), some (.inl 0)] [] ((jx_pf1 (jx_pf1 σ (p + 1) k (σ p 0) x) (p + 2) k (σ p 0) y)) _
            refine jw_W_n 2 (i' := 76) (ls' := [some (.inr (.inr p)), some (.inl x), some (.inl y), some (.inl z), some (.inl w), some (.inl k), some (.inl 0)]) (st' := [.inr (.inr p), .inr (.inr p)]) rfl ?_
            refine jw_W_gf rfl hp.2.1 rfl ?_
            show jw_W (js_S n) _ md_59 77 [some (.inr (.inr p)), some (.inl x), some (.inl y), some (.inl z), some (.inl w), some (.inl k), some (.inl 0)] [.inr (.inr (p + 3)), .inr (.inr p)] ((jx_pf1 (jx_pf1 σ (p + 1) k (σ p 0) x) (p + 2) k (σ p 0) y)) _
            refine jw_W_n 2 (i' := 79) (ls' := [some (.inr (.inr p)), some (.inl x), some (.inl y), some (.inl z), some (.inl w), some (.inl k), some (.inl 0)]) (st' := [.inl z, .inl k, .inr (.inr (p + 3)), .inr (.inr p)]) rfl ?_
            refine jw_W_call (as := [.inr (.inr p), .inr (.inr (p + 3)), .inl k, .inl z]) (rest := []) rfl rfl rfl rfl (Nat.le_of_ble_eq_true rfl) (.inr (jx_rc hp.2.1)) (jx_put hp hp.2.2.2.2.1 (by omega) k0 (by rw [(show (jx_pf1 (jx_pf1 σ (p + 1) k (σ p 0) x) (p + 2) k (σ p 0) y) p 0 = σ p 0 by rw [jx_pf1_o _ _ _ _ (by omega), jx_pf1_o _ _ _ _ (by omega)])]; exact k1) (by rw [(show (jx_pf1 (jx_pf1 σ (p + 1) k (σ p 0) x) (p + 2) k (σ p 0) y) p 0 = σ p 0 by rw [jx_pf1_o _ _ _ _ (by omega), jx_pf1_o _ _ _ _ (by omega)])]; omega)) (by omega) ?_ rfl
            rintro r1 σ1 ⟨rfl, hs⟩
            rw [hs, (show (jx_pf1 (jx_pf1 σ (p + 1) k (σ p 0) x) (p + 2) k (σ p 0) y) p 0 = σ p 0 by rw [jx_pf1_o _ _ _ _ (by omega), jx_pf1_o _ _ _ _ (by omega)])]
            show jw_W (js_S n) _ md_59 80 [some (.inr (.inr p)), some (.inl x), some (.inl y), some (.inl z), some (.inl w), some (.inl k), some (.inl 0)] [] ((jx_pf1 (jx_pf1 (jx_pf1 σ (p + 1) k (σ p 0) x) (p + 2) k (σ p 0) y) (p + 3) k (σ p 0) z)) _
            refine jw_W_n 2 (i' := 82) (ls' := [some (.inr (.inr p)), some (.inl x), some (.inl y), some (.inl z), some (.inl w), some (.inl k), some (.inl 0)]) (st' := [.inr (.inr p), .inr (.inr p)]) rfl ?_
            refine jw_W_gf rfl hp.2.1 rfl ?_
            show jw_W (js_S n) _ md_59 83 [some (.inr (.inr p)), some (.inl x), some (.inl y), some (.inl z), some (.inl w), some (.inl k), some (.inl 0)] [.inr (.inr (p + 4)), .inr (.inr p)] ((jx_pf1 (jx_pf1 (jx_pf1 σ (p + 1) k (σ p 0) x) (p + 2) k (σ p 0) y) (p + 3) k (σ p 0) z)) _
            refine jw_W_n 2 (i' := 85) (ls' := [some (.inr (.inr p)), some (.inl x), some (.inl y), some (.inl z), some (.inl w), some (.inl k), some (.inl 0)]) (st' := [.inl w, .inl k, .inr (.inr (p + 4)), .inr (.inr p)]) rfl ?_
            refine jw_W_call (as := [.inr (.inr p), .inr (.inr (p + 4)), .inl k, .inl w]) (rest := []) rfl rfl rfl rfl (Nat.le_of_ble_eq_true rfl) (.inr (jx_rc hp.2.1)) (jx_put hp hp.2.2.2.2.2 (by omega) k0 (by rw [(show (jx_pf1 (jx_pf1 (jx_pf1 σ (p + 1) k (σ p 0) x) (p + 2) k (σ p 0) y) (p + 3) k (σ p 0) z) p 0 = σ p 0 by rw [jx_pf1_o _ _ _ _ (by omega), jx_pf1_o _ _ _ _ (by omega), jx_pf1_o _ _ _ _ (by omega)])]; exact k1) (by rw [(show (jx_pf1 (jx_pf1 (jx_pf1 σ (p + 1) k (σ p 0) x) (p + 2) k (σ p 0) y) (p + 3) k (σ p 0) z) p 0 = σ p 0 by rw [jx_pf1_o _ _ _ _ (by omega), jx_pf1_o _ _ _ _ (by omega), jx_pf1_o _ _ _ _ (by omega)])]; omega)) (by omega) ?_ rfl
            rintro r1 σ1 ⟨rfl, hs⟩
            rw [hs, (show (jx_pf1 (jx_pf1 (jx_pf1 σ (p + 1) k (σ p 0) x) (p + 2) k (σ p 0) y) (p + 3) k (σ p 0) z) p 0 = σ p 0 by rw [jx_pf1_o _ _ _ _ (by omega), jx_pf1_o _ _ _ _ (by omega), jx_pf1_o _ _ _ _ (by omega)])]
            show jw_W (js_S n) _ md_59 86 [some (.inr (.inr p)), some (.inl x), some (.inl y), some (.inl z), some (.inl w), some (.inl k), some (.inl 0)] [] ((jx_pf1 (jx_pf1 (jx_pf1 (jx_pf1 σ (p + 1) k (σ p 0) x) (p + 2) k (σ p 0) y) (p + 3) k (σ p 0) z) (p + 4) k (σ p 0) w)) _
            refine jw_W_n 2 (i' := 88) (ls' := [some (.inr (.inr p)), some (.inl x), some (.inl y), some (.inl z), some (.inl w), some (.inl k), some (.inl 0)]) (st' := [.inr (.inr p), .inr (.inr p)]) rfl ?_
            refine jw_W_gf rfl hp.2.1 rfl ?_
            show jw_W (js_S n) _ md_59 89 [some (.inr (.inr p)), some (.inl x), some (.inl y), some (.inl z), some (.inl w), some (.inl k), some (.inl 0)] [.inl ((jx_pf1 (jx_pf1 (jx_pf1 (jx_pf1 σ (p + 1) k (σ p 0) x) (p + 2) k (σ p 0) y) (p + 3) k (σ p 0) z) (p + 4) k (σ p 0) w) p 0), .inr (.inr p)] ((jx_pf1 (jx_pf1 (jx_pf1 (jx_pf1 σ (p + 1) k (σ p 0) x) (p + 2) k (σ p 0) y) (p + 3) k (σ p 0) z) (p + 4) k (σ p 0) w)) _
            refine jw_W_n 2 (i' := 91) (ls' := [some (.inr (.inr p)), some (.inl x), some (.inl y), some (.inl z), some (.inl w), some (.inl k), some (.inl 0)]) (st' := [.inl (((jx_pf1 (jx_pf1 (jx_pf1 (jx_pf1 σ (p + 1) k (σ p 0) x) (p + 2) k (σ p 0) y) (p + 3) k (σ p 0) z) (p + 4) k (σ p 0) w) p 0) + 1), .inr (.inr p)]) rfl ?_
            refine jw_W_pf (a := ((jx_pf1 (jx_pf1 (jx_pf1 (jx_pf1 σ (p + 1) k (σ p 0) x) (p + 2) k (σ p 0) y) (p + 3) k (σ p 0) z) (p + 4) k (σ p 0) w) p 0) + 1) rfl (by omega) hp.2.1 rfl rfl rfl rfl ?_
            refine jw_W_re rfl ?_
            have hz : jw_up (jx_i4 σ p k (x, y, z, w)) p 0 (σ p 0 + 1) = (jw_up (jx_pf1 (jx_pf1 (jx_pf1 (jx_pf1 σ (p + 1) k (σ p 0) x) (p + 2) k (σ p 0) y) (p + 3) k (σ p 0) z) (p + 4) k (σ p 0) w) p 0 (((jx_pf1 (jx_pf1 (jx_pf1 (jx_pf1 σ (p + 1) k (σ p 0) x) (p + 2) k (σ p 0) y) (p + 3) k (σ p 0) z) (p + 4) k (σ p 0) w) p 0) + 1)) := by
                        rw [show (jx_pf1 (jx_pf1 (jx_pf1 (jx_pf1 σ (p + 1) k (σ p 0) x) (p + 2) k (σ p 0) y) (p + 3) k (σ p 0) z) (p + 4) k (σ p 0) w) p 0 = σ p 0 from by rw [jx_pf1_o _ _ _ _ (by omega), jx_pf1_o _ _ _ _ (by omega), jx_pf1_o _ _ _ _ (by omega), jx_pf1_o _ _ _ _ (by omega)]]
                        rfl
            refine ⟨rfl, ?_⟩
            show jx_ir σ p P (x, y, z, w) (jw_up (jx_pf1 (jx_pf1 (jx_pf1 (jx_pf1 σ (p + 1) k (σ p 0) x) (p + 2) k (σ p 0) y) (p + 3) k (σ p 0) z) (p + 4) k (σ p 0) w) p 0 (((jx_pf1 (jx_pf1 (jx_pf1 (jx_pf1 σ (p + 1) k (σ p 0) x) (p + 2) k (σ p 0) y) (p + 3) k (σ p 0) z) (p + 4) k (σ p 0) w) p 0) + 1))
            rw [← hz]
            exact jx_ir_new hl hso hok hv k0 k1 h1 h2 (by first | exact .inl (by omega) | exact .inr (fun hh => by simp only [jx_pt, Prod.mk.injEq] at hh; omega))
          · have hc9 : ¬ ((σ p 0) < 64) := hc9
            refine jw_W_re rfl ?_
            first | omega | exact ⟨rfl, jx_ir_there hl hso (i := (k - 1).toNat) (by omega) (by rw [show (((k - 1).toNat : Nat) : Int) = k - 1 by omega]; simp only [jx_pt, Prod.mk.injEq]; omega)⟩
      · have hc7 : (σ (p + 2) (k - 1)) = y := Classical.not_not.mp hc7
        refine jw_W_n 1 (i' := 36) (ls' := [some (.inr (.inr p)), some (.inl x), some (.inl y), some (.inl z), some (.inl w), some (.inl k), none]) (st' := [.inr (.inr p)]) rfl ?_
        refine jw_W_gf rfl hp.2.1 rfl ?_
        show jw_W (js_S n) _ md_59 37 [some (.inr (.inr p)), some (.inl x), some (.inl y), some (.inl z), some (.inl w), some (.inl k), none] [.inr (.inr (p + 3))] σ _
        refine jw_W_n 3 (i' := 40) (ls' := [some (.inr (.inr p)), some (.inl x), some (.inl y), some (.inl z), some (.inl w), some (.inl k), none]) (st' := [.inl (k - 1), .inr (.inr (p + 3))]) rfl ?_
        refine jw_W_ia rfl hp.2.2.2.2.1 (by omega) (by omega) (by omega) ?_
        show jw_W (js_S n) _ md_59 41 [some (.inr (.inr p)), some (.inl x), some (.inl y), some (.inl z), some (.inl w), some (.inl k), none] [.inl (σ (p + 3) (k - 1))] σ _
        refine jw_W_n 1 (i' := 42) (ls' := [some (.inr (.inr p)), some (.inl x), some (.inl y), some (.inl z), some (.inl w), some (.inl k), none]) (st' := [.inl z, .inl (σ (p + 3) (k - 1))]) rfl ?_
        refine jw_W_ic rfl (by unfold jw_rg; omega) (by unfold jw_rg; omega) (fun hc10 => ?_) (fun hc10 => ?_)
        · have hc10 : (σ (p + 3) (k - 1)) ≠ z := hc10
          refine jw_W_n 3 (i' := 56) (ls' := [some (.inr (.inr p)), some (.inl x), some (.inl y), some (.inl z), some (.inl w), some (.inl k), some (.inl 0)]) (st' := [.inl 0]) rfl ?_
          refine jw_W_if rfl (by unfold jw_rg; omega) (fun hc11 => ?_) (fun hc11 => ?_)
          · exact absurd hc11 (show ¬ ((0 : Int) ≠ 0) by omega)
          · clear hc11
            refine jw_W_n 1 (i' := 58) (ls' := [some (.inr (.inr p)), some (.inl x), some (.inl y), some (.inl z), some (.inl w), some (.inl k), some (.inl 0)]) (st' := [.inr (.inr p)]) rfl ?_
            refine jw_W_gf rfl hp.2.1 rfl ?_
            show jw_W (js_S n) _ md_59 59 [some (.inr (.inr p)), some (.inl x), some (.inl y), some (.inl z), some (.inl w), some (.inl k), some (.inl 0)] [.inl (σ p 0)] σ _
            refine jw_W_n 1 (i' := 60) (ls' := [some (.inr (.inr p)), some (.inl x), some (.inl y), some (.inl z), some (.inl w), some (.inl k), some (.inl 0)]) (st' := [.inl 64, .inl (σ p 0)]) rfl ?_
            refine jw_W_ic rfl (by unfold jw_rg; omega) (by unfold jw_rg; omega) (fun hc12 => ?_) (fun hc12 => ?_)
            · have hc12 : (σ p 0) < 64 := hc12
              refine jw_W_n 2 (i' := 64) (ls' := [some (.inr (.inr p)), some (.inl x), some (.inl y), some (.inl z), some (.inl w), some (.inl k), some (.inl 0)]) (st' := [.inr (.inr p), .inr (.inr p)]) rfl ?_
              refine jw_W_gf rfl hp.2.1 rfl ?_
              show jw_W (js_S n) _ md_59 65 [some (.inr (.inr p)), some (.inl x), some (.inl y), some (.inl z), some (.inl w), some (.inl k), some (.inl 0)] [.inr (.inr (p + 1)), .inr (.inr p)] σ _
              refine jw_W_n 2 (i' := 67) (ls' := [some (.inr (.inr p)), some (.inl x), some (.inl y), some (.inl z), some (.inl w), some (.inl k), some (.inl 0)]) (st' := [.inl x, .inl k, .inr (.inr (p + 1)), .inr (.inr p)]) rfl ?_
              refine jw_W_call (as := [.inr (.inr p), .inr (.inr (p + 1)), .inl k, .inl x]) (rest := []) rfl rfl rfl rfl (Nat.le_of_ble_eq_true rfl) (.inr (jx_rc hp.2.1)) (jx_put hp hp.2.2.1 (by omega) k0 (by rw [(show σ p 0 = σ p 0 by rfl)]; exact k1) (by rw [(show σ p 0 = σ p 0 by rfl)]; omega)) (by omega) ?_ rfl
              rintro r1 σ1 ⟨rfl, hs⟩
              rw [hs, (show σ p 0 = σ p 0 by rfl)]
              show jw_W (js_S n) _ md_59 68 [some (.inr (.inr p)), some (.inl x), some (.inl y), some (.inl z), some (.inl w), some (.inl k), some (.inl 0)] [] ((jx_pf1 σ (p + 1) k (σ p 0) x)) _
              refine jw_W_n 2 (i' := 70) (ls' := [some (.inr (.inr p)), some (.inl x), some (.inl y), some (.inl z), some (.inl w), some (.inl k), some (.inl 0)]) (st' := [.inr (.inr p), .inr (.inr p)]) rfl ?_
              refine jw_W_gf rfl hp.2.1 rfl ?_
              show jw_W (js_S n) _ md_59 71 [some (.inr (.inr p)), some (.inl x), some (.inl y), some (.inl z), some (.inl w), some (.inl k), some (.inl 0)] [.inr (.inr (p + 2)), .inr (.inr p)] ((jx_pf1 σ (p + 1) k (σ p 0) x)) _
              refine jw_W_n 2 (i' := 73) (ls' := [some (.inr (.inr p)), some (.inl x), some (.inl y), some (.inl z), some (.inl w), some (.inl k), some (.inl 0)]) (st' := [.inl y, .inl k, .inr (.inr (p + 2)), .inr (.inr p)]) rfl ?_
              refine jw_W_call (as := [.inr (.inr p), .inr (.inr (p + 2)), .inl k, .inl y]) (rest := []) rfl rfl rfl rfl (Nat.le_of_ble_eq_true rfl) (.inr (jx_rc hp.2.1)) (jx_put hp hp.2.2.2.1 (by omega) k0 (by rw [(show (jx_pf1 σ (p + 1) k (σ p 0) x) p 0 = σ p 0 by rw [jx_pf1_o _ _ _ _ (by omega)])]; exact k1) (by rw [(show (jx_pf1 σ (p + 1) k (σ p 0) x) p 0 = σ p 0 by rw [jx_pf1_o _ _ _ _ (by omega)])]; omega)) (by omega) ?_ rfl
              rintro r1 σ1 ⟨rfl, hs⟩
              rw [hs, (show (jx_pf1 σ (p + 1) k (σ p 0) x) p 0 = σ p 0 by rw [jx_pf1_o _ _ _ _ (by omega)])]
              show jw_W (js_S n) _ md_59 74 [some (.inr (.inr p)), some (.inl x), some (.inl y), some (.inl z), some (.inl w), some (.inl k), some (.inl 0)] [] ((jx_pf1 (jx_pf1 σ (p + 1) k (σ p 0) x) (p + 2) k (σ p 0) y)) _
              refine jw_W_n 2 (i' := 76) (ls' := [some (.inr (.inr p)), some (.inl x), some (.inl y), some (.inl z), some (.inl w), some (.inl k), some (.inl 0)]) (st' := [.inr (.inr p), .inr (.inr p)]) rfl ?_
              refine jw_W_gf rfl hp.2.1 rfl ?_
              show jw_W (js_S n) _ md_59 77 [some (.inr (.inr p)), some (.inl x), some (.inl y), some (.inl z), some (.inl w), some (.inl k), some (.inl 0)] [.inr (.inr (p + 3)), .inr (.inr p)] ((jx_pf1 (jx_pf1 σ (p + 1) k (σ p 0) x) (p + 2) k (σ p 0) y)) _
              refine jw_W_n 2 (i' := 79) (ls' := [some (.inr (.inr p)), some (.inl x), some (.inl y), some (.inl z), some (.inl w), some (.inl k), some (.inl 0)]) (st' := [.inl z, .inl k, .inr (.inr (p + 3)), .inr (.inr p)]) rfl ?_
              refine jw_W_call (as := [.inr (.inr p), .inr (.inr (p + 3)), .inl k, .inl z]) (rest := []) rfl rfl rfl rfl (Nat.le_of_ble_eq_true rfl) (.inr (jx_rc hp.2.1)) (jx_put hp hp.2.2.2.2.1 (by omega) k0 (by rw [(show (jx_pf1 (jx_pf1 σ (p + 1) k (σ p 0) x) (p + 2) k (σ p 0) y) p 0 = σ p 0 by rw [jx_pf1_o _ _ _ _ (by omega), jx_pf1_o _ _ _ _ (by omega)])]; exact k1) (by rw [(show (jx_pf1 (jx_pf1 σ (p + 1) k (σ p 0) x) (p + 2) k (σ p 0) y) p 0 = σ p 0 by rw [jx_pf1_o _ _ _ _ (by omega), jx_pf1_o _ _ _ _ (by omega)])]; omega)) (by omega) ?_ rfl
              rintro r1 σ1 ⟨rfl, hs⟩
              rw [hs, (show (jx_pf1 (jx_pf1 σ (p + 1) k (σ p 0) x) (p + 2) k (σ p 0) y) p 0 = σ p 0 by rw [jx_pf1_o _ _ _ _ (by omega), jx_pf1_o _ _ _ _ (by omega)])]
              show jw_W (js_S n) _ md_59 80 [some (.inr (.inr p)), some (.inl x), some (.inl y), some (.inl z), some (.inl w), some (.inl k), some (.inl 0)] [] ((jx_pf1 (jx_pf1 (jx_pf1 σ (p + 1) k (σ p 0) x) (p + 2) k (σ p 0) y) (p + 3) k (σ p 0) z)) _
              refine jw_W_n 2 (i' := 82) (ls' := [some (.inr (.inr p)), some (.inl x), some (.inl y), some (.inl z), some (.inl w), some (.inl k), some (.inl 0)]) (st' := [.inr (.inr p), .inr (.inr p)]) rfl ?_
              refine jw_W_gf rfl hp.2.1 rfl ?_
              show jw_W (js_S n) _ md_59 83 [some (.inr (.inr p)), some (.inl x), some (.inl y), some (.inl z), some (.inl w), some (.inl k), some (.inl 0)] [.inr (.inr (p + 4)), .inr (.inr p)] ((jx_pf1 (jx_pf1 (jx_pf1 σ (p + 1) k (σ p 0) x) (p + 2) k (σ p 0) y) (p + 3) k (σ p 0) z)) _
              refine jw_W_n 2 (i' := 85) (ls' := [some (.inr (.inr p)), some (.inl x), some (.inl y), some (.inl z), some (.inl w), some (.inl k), some (.inl 0)]) (st' := [.inl w, .inl k, .inr (.inr (p + 4)), .inr (.inr p)]) rfl ?_
              refine jw_W_call (as := [.inr (.inr p), .inr (.inr (p + 4)), .inl k, .inl w]) (rest := []) rfl rfl rfl rfl (Nat.le_of_ble_eq_true rfl) (.inr (jx_rc hp.2.1)) (jx_put hp hp.2.2.2.2.2 (by omega) k0 (by rw [(show (jx_pf1 (jx_pf1 (jx_pf1 σ (p + 1) k (σ p 0) x) (p + 2) k (σ p 0) y) (p + 3) k (σ p 0) z) p 0 = σ p 0 by rw [jx_pf1_o _ _ _ _ (by omega), jx_pf1_o _ _ _ _ (by omega), jx_pf1_o _ _ _ _ (by omega)])]; exact k1) (by rw [(show (jx_pf1 (jx_pf1 (jx_pf1 σ (p + 1) k (σ p 0) x) (p + 2) k (σ p 0) y) (p + 3) k (σ p 0) z) p 0 = σ p 0 by rw [jx_pf1_o _ _ _ _ (by omega), jx_pf1_o _ _ _ _ (by omega), jx_pf1_o _ _ _ _ (by omega)])]; omega)) (by omega) ?_ rfl
              rintro r1 σ1 ⟨rfl, hs⟩
              rw [hs, (show (jx_pf1 (jx_pf1 (jx_pf1 σ (p + 1) k (σ p 0) x) (p + 2) k (σ p 0) y) (p + 3) k (σ p 0) z) p 0 = σ p 0 by rw [jx_pf1_o _ _ _ _ (by omega), jx_pf1_o _ _ _ _ (by omega), jx_pf1_o _ _ _ _ (by omega)])]
              show jw_W (js_S n) _ md_59 86 [some (.inr (.inr p)), some (.inl x), some (.inl y), some (.inl z), some (.inl w), some (.inl k), some (.inl 0)] [] ((jx_pf1 (jx_pf1 (jx_pf1 (jx_pf1 σ (p + 1) k (σ p 0) x) (p + 2) k (σ p 0) y) (p + 3) k (σ p 0) z) (p + 4) k (σ p 0) w)) _
              refine jw_W_n 2 (i' := 88) (ls' := [some (.inr (.inr p)), some (.inl x), some (.inl y), some (.inl z), some (.inl w), some (.inl k), some (.inl 0)]) (st' := [.inr (.inr p), .inr (.inr p)]) rfl ?_
              refine jw_W_gf rfl hp.2.1 rfl ?_
              show jw_W (js_S n) _ md_59 89 [some (.inr (.inr p)), some (.inl x), some (.inl y), some (.inl z), some (.inl w), some (.inl k), some (.inl 0)] [.inl ((jx_pf1 (jx_pf1 (jx_pf1 (jx_pf1 σ (p + 1) k (σ p 0) x) (p + 2) k (σ p 0) y) (p + 3) k (σ p 0) z) (p + 4) k (σ p 0) w) p 0), .inr (.inr p)] ((jx_pf1 (jx_pf1 (jx_pf1 (jx_pf1 σ (p + 1) k (σ p 0) x) (p + 2) k (σ p 0) y) (p + 3) k (σ p 0) z) (p + 4) k (σ p 0) w)) _
              refine jw_W_n 2 (i' := 91) (ls' := [some (.inr (.inr p)), some (.inl x), some (.inl y), some (.inl z), some (.inl w), some (.inl k), some (.inl 0)]) (st' := [.inl (((jx_pf1 (jx_pf1 (jx_pf1 (jx_pf1 σ (p + 1) k (σ p 0) x) (p + 2) k (σ p 0) y) (p + 3) k (σ p 0) z) (p + 4) k (σ p 0) w) p 0) + 1), .inr (.inr p)]) rfl ?_
              refine jw_W_pf (a := ((jx_pf1 (jx_pf1 (jx_pf1 (jx_pf1 σ (p + 1) k (σ p 0) x) (p + 2) k (σ p 0) y) (p + 3) k (σ p 0) z) (p + 4) k (σ p 0) w) p 0) + 1) rfl (by omega) hp.2.1 rfl rfl rfl rfl ?_
              refine jw_W_re rfl ?_
              have hz : jw_up (jx_i4 σ p k (x, y, z, w)) p 0 (σ p 0 + 1) = (jw_up (jx_pf1 (jx_pf1 (jx_pf1 (jx_pf1 σ (p + 1) k (σ p 0) x) (p + 2) k (σ p 0) y) (p + 3) k (σ p 0) z) (p + 4) k (σ p 0) w) p 0 (((jx_pf1 (jx_pf1 (jx_pf1 (jx_pf1 σ (p + 1) k (σ p 0) x) (p + 2) k (σ p 0) y) (p + 3) k (σ p 0) z) (p + 4) k (σ p 0) w) p 0) + 1)) := by
                            rw [show (jx_pf1 (jx_pf1 (jx_pf1 (jx_pf1 σ (p + 1) k (σ p 0) x) (p + 2) k (σ p 0) y) (p + 3) k (σ p 0) z) (p + 4) k (σ p 0) w) p 0 = σ p 0 from by rw [jx_pf1_o _ _ _ _ (by omega), jx_pf1_o _ _ _ _ (by omega), jx_pf1_o _ _ _ _ (by omega), jx_pf1_o _ _ _ _ (by omega)]]
                            rfl
              refine ⟨rfl, ?_⟩
              show jx_ir σ p P (x, y, z, w) (jw_up (jx_pf1 (jx_pf1 (jx_pf1 (jx_pf1 σ (p + 1) k (σ p 0) x) (p + 2) k (σ p 0) y) (p + 3) k (σ p 0) z) (p + 4) k (σ p 0) w) p 0 (((jx_pf1 (jx_pf1 (jx_pf1 (jx_pf1 σ (p + 1) k (σ p 0) x) (p + 2) k (σ p 0) y) (p + 3) k (σ p 0) z) (p + 4) k (σ p 0) w) p 0) + 1))
              rw [← hz]
              exact jx_ir_new hl hso hok hv k0 k1 h1 h2 (by first | exact .inl (by omega) | exact .inr (fun hh => by simp only [jx_pt, Prod.mk.injEq] at hh; omega))
            · have hc12 : ¬ ((σ p 0) < 64) := hc12
              refine jw_W_re rfl ?_
              first | omega | exact ⟨rfl, jx_ir_there hl hso (i := (k - 1).toNat) (by omega) (by rw [show (((k - 1).toNat : Nat) : Int) = k - 1 by omega]; simp only [jx_pt, Prod.mk.injEq]; omega)⟩
        · have hc10 : (σ (p + 3) (k - 1)) = z := Classical.not_not.mp hc10
          refine jw_W_n 1 (i' := 44) (ls' := [some (.inr (.inr p)), some (.inl x), some (.inl y), some (.inl z), some (.inl w), some (.inl k), none]) (st' := [.inr (.inr p)]) rfl ?_
          refine jw_W_gf rfl hp.2.1 rfl ?_
          show jw_W (js_S n) _ md_59 45 [some (.inr (.inr p)), some (.inl x), some (.inl y), some (.inl z), some (.inl w), some (.inl k), none] [.inr (.inr (p + 4))] σ _
          refine jw_W_n 3 (i' := 48) (ls' := [some (.inr (.inr p)), some (.inl x), some (.inl y), some (.inl z), some (.inl w), some (.inl k), none]) (st' := [.inl (k - 1), .inr (.inr (p + 4))]) rfl ?_
          refine jw_W_ia rfl hp.2.2.2.2.2 (by omega) (by omega) (by omega) ?_
          show jw_W (js_S n) _ md_59 49 [some (.inr (.inr p)), some (.inl x), some (.inl y), some (.inl z), some (.inl w), some (.inl k), none] [.inl (σ (p + 4) (k - 1))] σ _
          refine jw_W_n 1 (i' := 50) (ls' := [some (.inr (.inr p)), some (.inl x), some (.inl y), some (.inl z), some (.inl w), some (.inl k), none]) (st' := [.inl w, .inl (σ (p + 4) (k - 1))]) rfl ?_
          refine jw_W_ic rfl (by unfold jw_rg; omega) (by unfold jw_rg; omega) (fun hc13 => ?_) (fun hc13 => ?_)
          · have hc13 : (σ (p + 4) (k - 1)) ≠ w := hc13
            refine jw_W_n 3 (i' := 56) (ls' := [some (.inr (.inr p)), some (.inl x), some (.inl y), some (.inl z), some (.inl w), some (.inl k), some (.inl 0)]) (st' := [.inl 0]) rfl ?_
            refine jw_W_if rfl (by unfold jw_rg; omega) (fun hc14 => ?_) (fun hc14 => ?_)
            · exact absurd hc14 (show ¬ ((0 : Int) ≠ 0) by omega)
            · clear hc14
              refine jw_W_n 1 (i' := 58) (ls' := [some (.inr (.inr p)), some (.inl x), some (.inl y), some (.inl z), some (.inl w), some (.inl k), some (.inl 0)]) (st' := [.inr (.inr p)]) rfl ?_
              refine jw_W_gf rfl hp.2.1 rfl ?_
              show jw_W (js_S n) _ md_59 59 [some (.inr (.inr p)), some (.inl x), some (.inl y), some (.inl z), some (.inl w), some (.inl k), some (.inl 0)] [.inl (σ p 0)] σ _
              refine jw_W_n 1 (i' := 60) (ls' := [some (.inr (.inr p)), some (.inl x), some (.inl y), some (.inl z), some (.inl w), some (.inl k), some (.inl 0)]) (st' := [.inl 64, .inl (σ p 0)]) rfl ?_
              refine jw_W_ic rfl (by unfold jw_rg; omega) (by unfold jw_rg; omega) (fun hc15 => ?_) (fun hc15 => ?_)
              · have hc15 : (σ p 0) < 64 := hc15
                refine jw_W_n 2 (i' := 64) (ls' := [some (.inr (.inr p)), some (.inl x), some (.inl y), some (.inl z), some (.inl w), some (.inl k), some (.inl 0)]) (st' := [.inr (.inr p), .inr (.inr p)]) rfl ?_
                refine jw_W_gf rfl hp.2.1 rfl ?_
                show jw_W (js_S n) _ md_59 65 [some (.inr (.inr p)), some (.inl x), some (.inl y), some (.inl z), some (.inl w), some (.inl k), some (.inl 0)] [.inr (.inr (p + 1)), .inr (.inr p)] σ _
                refine jw_W_n 2 (i' := 67) (ls' := [some (.inr (.inr p)), some (.inl x), some (.inl y), some (.inl z), some (.inl w), some (.inl k), some (.inl 0)]) (st' := [.inl x, .inl k, .inr (.inr (p + 1)), .inr (.inr p)]) rfl ?_
                refine jw_W_call (as := [.inr (.inr p), .inr (.inr (p + 1)), .inl k, .inl x]) (rest := []) rfl rfl rfl rfl (Nat.le_of_ble_eq_true rfl) (.inr (jx_rc hp.2.1)) (jx_put hp hp.2.2.1 (by omega) k0 (by rw [(show σ p 0 = σ p 0 by rfl)]; exact k1) (by rw [(show σ p 0 = σ p 0 by rfl)]; omega)) (by omega) ?_ rfl
                rintro r1 σ1 ⟨rfl, hs⟩
                rw [hs, (show σ p 0 = σ p 0 by rfl)]
                show jw_W (js_S n) _ md_59 68 [some (.inr (.inr p)), some (.inl x), some (.inl y), some (.inl z), some (.inl w), some (.inl k), some (.inl 0)] [] ((jx_pf1 σ (p + 1) k (σ p 0) x)) _
                refine jw_W_n 2 (i' := 70) (ls' := [some (.inr (.inr p)), some (.inl x), some (.inl y), some (.inl z), some (.inl w), some (.inl k), some (.inl 0)]) (st' := [.inr (.inr p), .inr (.inr p)]) rfl ?_
                refine jw_W_gf rfl hp.2.1 rfl ?_
                show jw_W (js_S n) _ md_59 71 [some (.inr (.inr p)), some (.inl x), some (.inl y), some (.inl z), some (.inl w), some (.inl k), some (.inl 0)] [.inr (.inr (p + 2)), .inr (.inr p)] ((jx_pf1 σ (p + 1) k (σ p 0) x)) _
                refine jw_W_n 2 (i' := 73) (ls' := [some (.inr (.inr p)), some (.inl x), some (.inl y), some (.inl z), some (.inl w), some (.inl k), some (.inl 0)]) (st' := [.inl y, .inl k, .inr (.inr (p + 2)), .inr (.inr p)]) rfl ?_
                refine jw_W_call (as := [.inr (.inr p), .inr (.inr (p + 2)), .inl k, .inl y]) (rest := []) rfl rfl rfl rfl (Nat.le_of_ble_eq_true rfl) (.inr (jx_rc hp.2.1)) (jx_put hp hp.2.2.2.1 (by omega) k0 (by rw [(show (jx_pf1 σ (p + 1) k (σ p 0) x) p 0 = σ p 0 by rw [jx_pf1_o _ _ _ _ (by omega)])]; exact k1) (by rw [(show (jx_pf1 σ (p + 1) k (σ p 0) x) p 0 = σ p 0 by rw [jx_pf1_o _ _ _ _ (by omega)])]; omega)) (by omega) ?_ rfl
                rintro r1 σ1 ⟨rfl, hs⟩
                rw [hs, (show (jx_pf1 σ (p + 1) k (σ p 0) x) p 0 = σ p 0 by rw [jx_pf1_o _ _ _ _ (by omega)])]
                show jw_W (js_S n) _ md_59 74 [some (.inr (.inr p)), some (.inl x), some (.inl y), some (.inl z), some (.inl w), some (.inl k), some (.inl 0)] [] ((jx_pf1 (jx_pf1 σ (p + 1) k (σ p 0) x) (p + 2) k (σ p 0) y)) _
                refine jw_W_n 2 (i' := 76) (ls' := [some (.inr (.inr p)), some (.inl x), some (.inl y), some (.inl z), some (.inl w), some (.inl k), some (.inl 0)]) (st' := [.inr (.inr p), .inr (.inr p)]) rfl ?_
                refine jw_W_gf rfl hp.2.1 rfl ?_
                show jw_W (js_S n) _ md_59 77 [some (.inr (.inr p)), some (.inl x), some (.inl y), some (.inl z), some (.inl w), some (.inl k), some (.inl 0)] [.inr (.inr (p + 3)), .inr (.inr p)] ((jx_pf1 (jx_pf1 σ (p + 1) k (σ p 0) x) (p + 2) k (σ p 0) y)) _
                refine jw_W_n 2 (i' := 79) (ls' := [some (.inr (.inr p)), some (.inl x), some (.inl y), some (.inl z), some (.inl w), some (.inl k), some (.inl 0)]) (st' := [.inl z, .inl k, .inr (.inr (p + 3)), .inr (.inr p)]) rfl ?_
                refine jw_W_call (as := [.inr (.inr p), .inr (.inr (p + 3)), .inl k, .inl z]) (rest := []) rfl rfl rfl rfl (Nat.le_of_ble_eq_true rfl) (.inr (jx_rc hp.2.1)) (jx_put hp hp.2.2.2.2.1 (by omega) k0 (by rw [(show (jx_pf1 (jx_pf1 σ (p + 1) k (σ p 0) x) (p + 2) k (σ p 0) y) p 0 = σ p 0 by rw [jx_pf1_o _ _ _ _ (by omega), jx_pf1_o _ _ _ _ (by omega)])]; exact k1) (by rw [(show (jx_pf1 (jx_pf1 σ (p + 1) k (σ p 0) x) (p + 2) k (σ p 0) y) p 0 = σ p 0 by rw [jx_pf1_o _ _ _ _ (by omega), jx_pf1_o _ _ _ _ (by omega)])]; omega)) (by omega) ?_ rfl
                rintro r1 σ1 ⟨rfl, hs⟩
                rw [hs, (show (jx_pf1 (jx_pf1 σ (p + 1) k (σ p 0) x) (p + 2) k (σ p 0) y) p 0 = σ p 0 by rw [jx_pf1_o _ _ _ _ (by omega), jx_pf1_o _ _ _ _ (by omega)])]
                show jw_W (js_S n) _ md_59 80 [some (.inr (.inr p)), some (.inl x), some (.inl y), some (.inl z), some (.inl w), some (.inl k), some (.inl 0)] [] ((jx_pf1 (jx_pf1 (jx_pf1 σ (p + 1) k (σ p 0) x) (p + 2) k (σ p 0) y) (p + 3) k (σ p 0) z)) _
                refine jw_W_n 2 (i' := 82) (ls' := [some (.inr (.inr p)), some (.inl x), some (.inl y), some (.inl z), some (.inl w), some (.inl k), some (.inl 0)]) (st' := [.inr (.inr p), .inr (.inr p)]) rfl ?_
                refine jw_W_gf rfl hp.2.1 rfl ?_
                show jw_W (js_S n) _ md_59 83 [some (.inr (.inr p)), some (.inl x), some (.inl y), some (.inl z), some (.inl w), some (.inl k), some (.inl 0)] [.inr (.inr (p + 4)), .inr (.inr p)] ((jx_pf1 (jx_pf1 (jx_pf1 σ (p + 1) k (σ p 0) x) (p + 2) k (σ p 0) y) (p + 3) k (σ p 0) z)) _
                refine jw_W_n 2 (i' := 85) (ls' := [some (.inr (.inr p)), some (.inl x), some (.inl y), some (.inl z), some (.inl w), some (.inl k), some (.inl 0)]) (st' := [.inl w, .inl k, .inr (.inr (p + 4)), .inr (.inr p)]) rfl ?_
                refine jw_W_call (as := [.inr (.inr p), .inr (.inr (p + 4)), .inl k, .inl w]) (rest := []) rfl rfl rfl rfl (Nat.le_of_ble_eq_true rfl) (.inr (jx_rc hp.2.1)) (jx_put hp hp.2.2.2.2.2 (by omega) k0 (by rw [(show (jx_pf1 (jx_pf1 (jx_pf1 σ (p + 1) k (σ p 0) x) (p + 2) k (σ p 0) y) (p + 3) k (σ p 0) z) p 0 = σ p 0 by rw [jx_pf1_o _ _ _ _ (by omega), jx_pf1_o _ _ _ _ (by omega), jx_pf1_o _ _ _ _ (by omega)])]; exact k1) (by rw [(show (jx_pf1 (jx_pf1 (jx_pf1 σ (p + 1) k (σ p 0) x) (p + 2) k (σ p 0) y) (p + 3) k (σ p 0) z) p 0 = σ p 0 by rw [jx_pf1_o _ _ _ _ (by omega), jx_pf1_o _ _ _ _ (by omega), jx_pf1_o _ _ _ _ (by omega)])]; omega)) (by omega) ?_ rfl
                rintro r1 σ1 ⟨rfl, hs⟩
                rw [hs, (show (jx_pf1 (jx_pf1 (jx_pf1 σ (p + 1) k (σ p 0) x) (p + 2) k (σ p 0) y) (p + 3) k (σ p 0) z) p 0 = σ p 0 by rw [jx_pf1_o _ _ _ _ (by omega), jx_pf1_o _ _ _ _ (by omega), jx_pf1_o _ _ _ _ (by omega)])]
                show jw_W (js_S n) _ md_59 86 [some (.inr (.inr p)), some (.inl x), some (.inl y), some (.inl z), some (.inl w), some (.inl k), some (.inl 0)] [] ((jx_pf1 (jx_pf1 (jx_pf1 (jx_pf1 σ (p + 1) k (σ p 0) x) (p + 2) k (σ p 0) y) (p + 3) k (σ p 0) z) (p + 4) k (σ p 0) w)) _
                refine jw_W_n 2 (i' := 88) (ls' := [some (.inr (.inr p)), some (.inl x), some (.inl y), some (.inl z), some (.inl w), some (.inl k), some (.inl 0)]) (st' := [.inr (.inr p), .inr (.inr p)]) rfl ?_
                refine jw_W_gf rfl hp.2.1 rfl ?_
                show jw_W (js_S n) _ md_59 89 [some (.inr (.inr p)), some (.inl x), some (.inl y), some (.inl z), some (.inl w), some (.inl k), some (.inl 0)] [.inl ((jx_pf1 (jx_pf1 (jx_pf1 (jx_pf1 σ (p + 1) k (σ p 0) x) (p + 2) k (σ p 0) y) (p + 3) k (σ p 0) z) (p + 4) k (σ p 0) w) p 0), .inr (.inr p)] ((jx_pf1 (jx_pf1 (jx_pf1 (jx_pf1 σ (p + 1) k (σ p 0) x) (p + 2) k (σ p 0) y) (p + 3) k (σ p 0) z) (p + 4) k (σ p 0) w)) _
                refine jw_W_n 2 (i' := 91) (ls' := [some (.inr (.inr p)), some (.inl x), some (.inl y), some (.inl z), some (.inl w), some (.inl k), some (.inl 0)]) (st' := [.inl (((jx_pf1 (jx_pf1 (jx_pf1 (jx_pf1 σ (p + 1) k (σ p 0) x) (p + 2) k (σ p 0) y) (p + 3) k (σ p 0) z) (p + 4) k (σ p 0) w) p 0) + 1), .inr (.inr p)]) rfl ?_
                refine jw_W_pf (a := ((jx_pf1 (jx_pf1 (jx_pf1 (jx_pf1 σ (p + 1) k (σ p 0) x) (p + 2) k (σ p 0) y) (p + 3) k (σ p 0) z) (p + 4) k (σ p 0) w) p 0) + 1) rfl (by omega) hp.2.1 rfl rfl rfl rfl ?_
                refine jw_W_re rfl ?_
                have hz : jw_up (jx_i4 σ p k (x, y, z, w)) p 0 (σ p 0 + 1) = (jw_up (jx_pf1 (jx_pf1 (jx_pf1 (jx_pf1 σ (p + 1) k (σ p 0) x) (p + 2) k (σ p 0) y) (p + 3) k (σ p 0) z) (p + 4) k (σ p 0) w) p 0 (((jx_pf1 (jx_pf1 (jx_pf1 (jx_pf1 σ (p + 1) k (σ p 0) x) (p + 2) k (σ p 0) y) (p + 3) k (σ p 0) z) (p + 4) k (σ p 0) w) p 0) + 1)) := by
                                rw [show (jx_pf1 (jx_pf1 (jx_pf1 (jx_pf1 σ (p + 1) k (σ p 0) x) (p + 2) k (σ p 0) y) (p + 3) k (σ p 0) z) (p + 4) k (σ p 0) w) p 0 = σ p 0 from by rw [jx_pf1_o _ _ _ _ (by omega), jx_pf1_o _ _ _ _ (by omega), jx_pf1_o _ _ _ _ (by omega), jx_pf1_o _ _ _ _ (by omega)]]
                                rfl
                refine ⟨rfl, ?_⟩
                show jx_ir σ p P (x, y, z, w) (jw_up (jx_pf1 (jx_pf1 (jx_pf1 (jx_pf1 σ (p + 1) k (σ p 0) x) (p + 2) k (σ p 0) y) (p + 3) k (σ p 0) z) (p + 4) k (σ p 0) w) p 0 (((jx_pf1 (jx_pf1 (jx_pf1 (jx_pf1 σ (p + 1) k (σ p 0) x) (p + 2) k (σ p 0) y) (p + 3) k (σ p 0) z) (p + 4) k (σ p 0) w) p 0) + 1))
                rw [← hz]
                exact jx_ir_new hl hso hok hv k0 k1 h1 h2 (by first | exact .inl (by omega) | exact .inr (fun hh => by simp only [jx_pt, Prod.mk.injEq] at hh; omega))
              · have hc15 : ¬ ((σ p 0) < 64) := hc15
                refine jw_W_re rfl ?_
                first | omega | exact ⟨rfl, jx_ir_there hl hso (i := (k - 1).toNat) (by omega) (by rw [show (((k - 1).toNat : Nat) : Int) = k - 1 by omega]; simp only [jx_pt, Prod.mk.injEq]; omega)⟩
          · have hc13 : (σ (p + 4) (k - 1)) = w := Classical.not_not.mp hc13
            refine jw_W_n 4 (i' := 56) (ls' := [some (.inr (.inr p)), some (.inl x), some (.inl y), some (.inl z), some (.inl w), some (.inl k), some (.inl 1)]) (st' := [.inl 1]) rfl ?_
            refine jw_W_if rfl (by unfold jw_rg; omega) (fun hc16 => ?_) (fun hc16 => ?_)
            · clear hc16
              refine jw_W_re rfl ?_
              first | omega | exact ⟨rfl, jx_ir_there hl hso (i := (k - 1).toNat) (by omega) (by rw [show (((k - 1).toNat : Nat) : Int) = k - 1 by omega]; simp only [jx_pt, Prod.mk.injEq]; omega)⟩
            · exact absurd hc16 (show ¬ ¬ ((1 : Int) ≠ 0) by omega)
theorem jx_insert {n : Nat} {σ : jw_H} {p : Nat} (hp : jx_pp n p) {x y z w : Int} {P : List ge_R} (hl : jx_pl σ p P) (hso : jx_so P) (hok : ∀ u ∈ P, jx_ok u) (hv : jx_ok (x, y, z, w)) (hlen : P.length < 64) : jw_T (js_S n) 2 59 [.inr (.inr p), .inl x, .inl y, .inl z, .inl w] σ (fun r σ' => r = none ∧ jx_ir σ p P (x, y, z, w) σ') := by
  refine jw_T_of (D := 1) (M := mm_59) rfl (Nat.le_of_ble_eq_true rfl) (ls0 := [some (.inr (.inr p)), some (.inl x), some (.inl y), some (.inl z), some (.inl w), none, none]) rfl ?_ (by rintro _ _ ⟨rfl, -⟩; rfl)
  have ho := hp.1
  have hm := hl.1
  have hb : ∀ i, 0 ≤ i → i < σ p 0 → jx_bd (jx_pt σ p i) := fun i i0 i1 => by
    have hg := List.getElem?_eq_getElem (l := P) (i := i.toNat) (by omega)
    have e1 := hl.2 _ _ hg
    rw [show ((i.toNat : Nat) : Int) = i by omega] at e1
    rw [e1]
    exact (hok _ (List.getElem_mem _)).1
  refine jw_W_n 1 (i' := 1) (ls' := [some (.inr (.inr p)), some (.inl x), some (.inl y), some (.inl z), some (.inl w), none, none]) (st' := [.inr (.inr p)]) rfl ?_
  refine jw_W_gf rfl hp.2.1 rfl ?_
  show jw_W (js_S n) _ md_59 2 [some (.inr (.inr p)), some (.inl x), some (.inl y), some (.inl z), some (.inl w), none, none] [.inl (σ p 0)] σ _
  refine jw_W_n 1 (i' := 3) (ls' := [some (.inr (.inr p)), some (.inl x), some (.inl y), some (.inl z), some (.inl w), some (.inl (σ p 0)), none]) (st' := []) rfl ?_
  exact jx_ins_loop (D := 1) hp (by omega) (by omega) hb hv (fun k k0 k1 h1 h2 => jx_ins_rest hp hl hso hok hv hlen k0 k1 h1 h2) P.length (by omega) (by omega) (fun i i0 i1 => by omega)

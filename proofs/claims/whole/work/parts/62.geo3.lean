/-! ===== geometry: how many corners there are at most: two for each row ===== -/
theorem ge_bnd : ∀ L : List ge_D, ∃ K : Int, 0 ≤ K ∧ ∀ d ∈ L, -K ≤ d.1 ∧ d.1 ≤ K ∧ -K ≤ d.2.1 ∧ d.2.1 ≤ K ∧ -K ≤ d.2.2 ∧ d.2.2 ≤ K
  | [] => ⟨0, by omega, fun d h => absurd h List.not_mem_nil⟩
  | d0 :: L => by
    obtain ⟨K, h0, hK⟩ := ge_bnd L
    refine ⟨K + d0.1.natAbs + d0.2.1.natAbs + d0.2.2.natAbs, by omega, fun d hd => ?_⟩
    rcases List.mem_cons.mp hd with e | hd
    · subst e
      omega
    · have := hK d hd
      omega
theorem ge_digit {M t s : Int} (h : M * t + s = 0) (h1 : -M < s) (h2 : s < M) : t = 0 ∧ s = 0 := by
  have ht : t = 0 := by
    by_cases a : 1 ≤ t
    · have := Int.mul_le_mul_of_nonneg_left a (show 0 ≤ M by omega)
      omega
    · by_cases b : t ≤ -1
      · have := Int.mul_le_mul_of_nonneg_left b (show 0 ≤ M by omega)
        omega
      · omega
  subst ht
  omega
/-- a sum that no way of a list is level on, but none -/
theorem ge_gen (L : List ge_D) : ∃ M : Int, ∀ d ∈ L, ge_fd (M * M, M, 1) d = 0 → ¬ ge_nz d := by
  obtain ⟨K, h0, hK⟩ := ge_bnd L
  refine ⟨K + 1, fun d hd h hz => hz ?_⟩
  have b := hK d hd
  simp only [ge_fd] at h
  obtain ⟨e1, e2⟩ := ge_digit (M := K + 1) (t := (K + 1) * d.1 + d.2.1) (s := d.2.2) (by grind) (by omega) (by omega)
  obtain ⟨e3, e4⟩ := ge_digit e1 (by omega) (by omega)
  exact ⟨e3, e4, e2⟩
theorem ge_split {α : Type} (q : α → Bool) : ∀ L : List α, L.length = (L.filter q).length + (L.filter (fun a => !q a)).length
  | [] => rfl
  | a :: L => by
    have ih := ge_split q L
    cases h : q a
    · rw [List.filter_cons_of_neg (by rw [h]; decide), List.filter_cons_of_pos (by rw [h]; rfl), List.length_cons, List.length_cons]
      omega
    · rw [List.filter_cons_of_pos h, List.filter_cons_of_neg (by rw [h]; decide), List.length_cons, List.length_cons]
      omega
theorem ge_pig {α : Type} (e : α → α → Prop) : ∀ (Q : List (α → Prop)) (L : List α), L.Pairwise (fun a b => ¬ e a b) → (∀ a ∈ L, ∃ q ∈ Q, q a) → (∀ q ∈ Q, ∀ a ∈ L, ∀ b ∈ L, q a → q b → e a b) → L.length ≤ Q.length
  | [], L, _, h1, _ => by
    match L, h1 with
    | [], _ => exact Nat.le_refl _
    | a :: _, h1 =>
      obtain ⟨q, hq, _⟩ := h1 a List.mem_cons_self
      exact absurd hq List.not_mem_nil
  | q :: Q, L, h0, h1, h2 => by
    classical
    have hs := ge_split (fun a => decide (q a)) L
    generalize hy : L.filter (fun a => decide (q a)) = Y at hs
    generalize hn : L.filter (fun a => !decide (q a)) = N at hs
    have hN : N.length ≤ Q.length := by
      subst hn
      refine ge_pig e Q _ (List.Pairwise.filter _ h0) (fun a ha => ?_) (fun q' hq' a ha b hb => h2 q' (List.mem_cons_of_mem _ hq') a (List.mem_filter.mp ha).1 b (List.mem_filter.mp hb).1)
      obtain ⟨ha, hq⟩ := List.mem_filter.mp ha
      obtain ⟨q', hq', hqa⟩ := h1 a ha
      rcases List.mem_cons.mp hq' with er | hq'
      · subst er
        rw [Bool.not_eq_true', decide_eq_false_iff_not] at hq
        exact absurd hqa hq
      · exact ⟨q', hq', hqa⟩
    have hY : Y.length ≤ 1 := by
      subst hy
      have hp : (L.filter (fun a => decide (q a))).Pairwise (fun a b => ¬ e a b) := List.Pairwise.filter _ h0
      have hm : ∀ a ∈ L.filter (fun a => decide (q a)), a ∈ L ∧ q a := fun a ha => by
        obtain ⟨ha, hq⟩ := List.mem_filter.mp ha
        exact ⟨ha, of_decide_eq_true hq⟩
      generalize L.filter (fun a => decide (q a)) = Y at hp hm
      match Y, hp, hm with
      | [], _, _ => exact Nat.zero_le _
      | [_], _, _ => exact Nat.le_refl _
      | a :: b :: r, hp, hm =>
        rw [List.pairwise_cons] at hp
        have ha := hm a List.mem_cons_self
        have hb := hm b (List.mem_cons_of_mem _ List.mem_cons_self)
        exact absurd (h2 q List.mem_cons_self a ha.1 b hb.1 ha.2 hb.2) (hp.1 b List.mem_cons_self)
    rw [List.length_cons]
    omega
theorem ge_fd_to (f : ge_D) (p q : ge_R) : ge_fd f (ge_to p q) = ge_f f q * p.2.2.2 - ge_f f p * q.2.2.2 := by
  simp only [ge_fd, ge_to, ge_f]
  grind
/-- neither the least nor the greatest on a row: a level way along the row that stays allowed -/
theorem ge_ext {R : List ge_R} {u : ge_D} {v a b r : ge_R} (hv : ge_V R v) (ha : ge_F R a) (hb : ge_F R b) (sv : ge_s r v = 0) (sa : ge_s r a = 0) (sb : ge_s r b = 0) (h1 : ge_f u a * v.2.2.2 < ge_f u v * a.2.2.2) (h2 : ge_f u v * b.2.2.2 < ge_f u b * v.2.2.2) : ∃ d, ge_nz d ∧ ge_fd u d = 0 ∧ ge_n r d = 0 ∧ ∀ t ∈ R, ge_s t v = 0 → ge_n t d ≤ 0 := by
  have e1 := ge_fd_to u v a
  have e2 := ge_fd_to u v b
  have p1 : ge_fd u (ge_to v a) < 0 := by omega
  have p2 : 0 < ge_fd u (ge_to v b) := by omega
  have hn : ∀ t, ge_n t (ge_fd u (ge_to v b) * (ge_to v a).1 + -ge_fd u (ge_to v a) * (ge_to v b).1, ge_fd u (ge_to v b) * (ge_to v a).2.1 + -ge_fd u (ge_to v a) * (ge_to v b).2.1, ge_fd u (ge_to v b) * (ge_to v a).2.2 + -ge_fd u (ge_to v a) * (ge_to v b).2.2) = ge_fd u (ge_to v b) * ge_n t (ge_to v a) + -ge_fd u (ge_to v a) * ge_n t (ge_to v b) := by
    intro t
    generalize ge_fd u (ge_to v b) = x
    generalize ge_fd u (ge_to v a) = y
    simp only [ge_n]
    grind
  refine ⟨(ge_fd u (ge_to v b) * (ge_to v a).1 + -ge_fd u (ge_to v a) * (ge_to v b).1, ge_fd u (ge_to v b) * (ge_to v a).2.1 + -ge_fd u (ge_to v a) * (ge_to v b).2.1, ge_fd u (ge_to v b) * (ge_to v a).2.2 + -ge_fd u (ge_to v a) * (ge_to v b).2.2), fun hz => ?_, ?_, ?_, fun t ht st => ?_⟩
  · have := ge_amid hv ha hb p2 (show 0 < -ge_fd u (ge_to v a) by omega) hz.1 hz.2.1 hz.2.2
    have hz := ge_to_z.mp this
    have : ge_fd u (ge_to v a) = 0 := by
      have h := Classical.not_not.mp hz
      simp only [ge_fd]
      rw [h.1, h.2.1, h.2.2]
      omega
    omega
  · generalize h3 : ge_fd u (ge_to v b) = x
    generalize h4 : ge_fd u (ge_to v a) = y
    simp only [ge_fd] at h3 h4 ⊢
    grind
  · rw [hn, ge_to_n, ge_to_n, sa, sb, sv]
    omega
  · rw [hn, ge_to_n, ge_to_n, st]
    have f1 := ge_mul_np (ha.2 t ht) (Int.le_of_lt hv.1.1)
    have f2 := ge_mul_np (hb.2 t ht) (Int.le_of_lt hv.1.1)
    have f3 := ge_mul_pn (Int.le_of_lt p2) (show ge_s t a * v.2.2.2 - 0 * a.2.2.2 ≤ 0 by omega)
    have f4 := ge_mul_pn (show 0 ≤ -ge_fd u (ge_to v a) by omega) (show ge_s t b * v.2.2.2 - 0 * b.2.2.2 ≤ 0 by omega)
    omega
theorem ge_flat {r t : ge_R} {u d : ge_D} (h1 : ge_n r d = 0) (h2 : ge_n t d = 0) (h3 : ge_fd u d = 0) (hd : ge_nz d) : ge_fd u (ge_x r t) = 0 := by
  obtain ⟨p1, p2, p3⟩ := ge_x_par h1 h2
  simp only [ge_fd] at h3 ⊢
  generalize ge_x r t = x at *
  have q1 : (u.1 * x.1 + u.2.1 * x.2.1 + u.2.2 * x.2.2) * d.1 = 0 := by grind
  have q2 : (u.1 * x.1 + u.2.1 * x.2.1 + u.2.2 * x.2.2) * d.2.1 = 0 := by grind
  have q3 : (u.1 * x.1 + u.2.1 * x.2.1 + u.2.2 * x.2.2) * d.2.2 = 0 := by grind
  apply Classical.byContradiction
  intro hc
  exact hd ⟨(Int.mul_eq_zero.mp q1).resolve_left hc, (Int.mul_eq_zero.mp q2).resolve_left hc, (Int.mul_eq_zero.mp q3).resolve_left hc⟩
def ge_d3 (a b c : ge_D) : Int := a.1 * (b.2.1 * c.2.2 - b.2.2 * c.2.1) + a.2.1 * (b.2.2 * c.1 - b.1 * c.2.2) + a.2.2 * (b.1 * c.2.1 - b.2.1 * c.1)
theorem ge_dd (r q t : ge_R) (a b c : ge_D) : ge_n r a * (ge_n q b * ge_n t c - ge_n q c * ge_n t b) + ge_n r b * (ge_n q c * ge_n t a - ge_n q a * ge_n t c) + ge_n r c * (ge_n q a * ge_n t b - ge_n q b * ge_n t a) = ge_det r q t * ge_d3 a b c := by
  obtain ⟨r1, r2, r3, -⟩ := r
  obtain ⟨q1, q2, q3, -⟩ := q
  obtain ⟨t1, t2, t3, -⟩ := t
  obtain ⟨a1, a2, a3⟩ := a
  obtain ⟨b1, b2, b3⟩ := b
  obtain ⟨c1, c2, c3⟩ := c
  simp only [ge_n, ge_det, ge_x, ge_d3]
  grind
theorem ge_d3_z {x y : Int} {a b c : ge_D} (h1 : ge_fd (x, y, 1) a = 0) (h2 : ge_fd (x, y, 1) b = 0) (h3 : ge_fd (x, y, 1) c = 0) : ge_d3 a b c = 0 := by
  have e : ge_d3 a b c = ge_fd (x, y, 1) a * (b.1 * c.2.1 - b.2.1 * c.1) + ge_fd (x, y, 1) b * (c.1 * a.2.1 - c.2.1 * a.1) + ge_fd (x, y, 1) c * (a.1 * b.2.1 - a.2.1 * b.1) := by
    simp only [ge_d3, ge_fd]
    grind
  rw [e, h1, h2, h3]
  omega
/-- the least on a row (the greatest, with the other sign) -/
def ge_lo (Ps : List ge_R) (u : ge_D) (r p : ge_R) : Prop := ge_s r p = 0 ∧ ∀ q ∈ Ps, ge_s r q = 0 → ge_f u p * q.2.2.2 ≤ ge_f u q * p.2.2.2
def ge_hi (Ps : List ge_R) (u : ge_D) (r p : ge_R) : Prop := ge_s r p = 0 ∧ ∀ q ∈ Ps, ge_s r q = 0 → ge_f u q * p.2.2.2 ≤ ge_f u p * q.2.2.2
theorem ge_amidst {R Ps : List ge_R} {u : ge_D} {v r : ge_R} (hV : ∀ p ∈ Ps, ge_V R p) (hv : v ∈ Ps) (sv : ge_s r v = 0) (h1 : ¬ ge_lo Ps u r v) (h2 : ¬ ge_hi Ps u r v) : ∃ d, ge_nz d ∧ ge_fd u d = 0 ∧ ge_n r d = 0 ∧ ∀ t ∈ R, ge_s t v = 0 → ge_n t d ≤ 0 := by
  have a1 : ∃ a ∈ Ps, ge_s r a = 0 ∧ ge_f u a * v.2.2.2 < ge_f u v * a.2.2.2 := Classical.byContradiction (fun w => h1 ⟨sv, fun q hq sq => Int.not_lt.mp (fun l => w ⟨q, hq, sq, l⟩)⟩)
  have a2 : ∃ b ∈ Ps, ge_s r b = 0 ∧ ge_f u v * b.2.2.2 < ge_f u b * v.2.2.2 := Classical.byContradiction (fun w => h2 ⟨sv, fun q hq sq => Int.not_lt.mp (fun l => w ⟨q, hq, sq, l⟩)⟩)
  obtain ⟨a, ha, sa, la⟩ := a1
  obtain ⟨b, hb, sb, lb⟩ := a2
  exact ge_ext (hV v hv) (hV a ha).1 (hV b hb).1 sv sa sb la lb
theorem ge_p3 {a b c : Int} (ha : a ≤ 0) (hb : b ≤ 0) (hc : c ≤ 0) : a * b * c ≤ 0 := ge_mul_pn (ge_mul_nn ha hb) hc
theorem ge_k3 {x y z u v w m : Int} (e : 0 * (0 * 0 - y * w) + x * (y * z - u * 0) + v * (u * w - 0 * z) = m * 0) (h1 : x * y * z ≤ 0) (h2 : v * u * w ≤ 0) : x * y * z = 0 := by
  have e2 : x * y * z + v * u * w = 0 := by grind
  omega
theorem ge_end2 {R Ps : List ge_R} {x y : Int} {v : ge_R} (hV : ∀ p ∈ Ps, ge_V R p) (hv : v ∈ Ps) (hg : ∀ r ∈ R, ∀ t ∈ R, ge_fd (x, y, 1) (ge_x r t) = 0 → ¬ ge_nz (ge_x r t)) : ∃ r ∈ R, ge_lo Ps (x, y, 1) r v ∨ ge_hi Ps (x, y, 1) r v := by
  apply Classical.byContradiction
  intro hc
  have hn : ∀ r ∈ R, ge_s r v = 0 → ∃ d, ge_nz d ∧ ge_fd (x, y, 1) d = 0 ∧ ge_n r d = 0 ∧ ∀ t ∈ R, ge_s t v = 0 → ge_n t d ≤ 0 := fun r hr sr => ge_amidst hV hv sr (fun w => hc ⟨r, hr, .inl w⟩) (fun w => hc ⟨r, hr, .inr w⟩)
  obtain ⟨hF, r, hr, q, hq, t, ht, sr, sq, st, hd⟩ := hV v hv
  obtain ⟨a, a1, a2, a3, a4⟩ := hn r hr sr
  obtain ⟨b, b1, b2, b3, b4⟩ := hn q hq sq
  obtain ⟨c, c1, c2, c3, c4⟩ := hn t ht st
  have e := ge_dd r q t a b c
  rw [ge_d3_z a2 b2 c2, a3, b3, c3] at e
  have k1 := ge_p3 (b4 r hr sr) (c4 q hq sq) (a4 t ht st)
  have k2 := ge_p3 (c4 r hr sr) (a4 q hq sq) (b4 t ht st)
  have k3 : ge_n r b * ge_n q c * ge_n t a = 0 := ge_k3 e k1 k2
  obtain ⟨x1, x2, x3⟩ := ge_det_nz hd
  rcases Int.mul_eq_zero.mp k3 with k | k
  · rcases Int.mul_eq_zero.mp k with k | k
    · exact hg r hr q hq (ge_flat k b3 b2 b1) x1
    · exact hg q hq t ht (ge_flat k c3 c2 c1) x2
  · exact hg t ht r hr (ge_flat k a3 a2 a1) x3
theorem ge_count {R Ps : List ge_R} (hV : ∀ p ∈ Ps, ge_V R p) (hP : Ps.Pairwise (fun p q => ¬ ge_e p q)) : Ps.length ≤ 2 * R.length := by
  obtain ⟨M, hM⟩ := ge_gen ((R.flatMap fun r => R.map (ge_x r)) ++ (Ps.flatMap fun p => Ps.map (ge_to p)))
  have h1 : ∀ r ∈ R, ∀ t ∈ R, ge_fd (M * M, M, 1) (ge_x r t) = 0 → ¬ ge_nz (ge_x r t) := fun r hr t ht => hM _ (List.mem_append_left _ (List.mem_flatMap.mpr ⟨r, hr, List.mem_map.mpr ⟨t, ht, rfl⟩⟩))
  have h2 : ∀ p ∈ Ps, ∀ q ∈ Ps, ge_fd (M * M, M, 1) (ge_to p q) = 0 → ge_e p q := fun p hp q hq h => ge_to_z.mpr (hM _ (List.mem_append_right _ (List.mem_flatMap.mpr ⟨p, hp, List.mem_map.mpr ⟨q, hq, rfl⟩⟩)) h)
  have h3 := ge_pig ge_e (R.map (ge_lo Ps (M * M, M, 1)) ++ R.map (ge_hi Ps (M * M, M, 1))) Ps hP (fun p hp => by
    obtain ⟨r, hr, h⟩ := ge_end2 hV hp h1
    rcases h with h | h
    · exact ⟨_, List.mem_append_left _ (List.mem_map.mpr ⟨r, hr, rfl⟩), h⟩
    · exact ⟨_, List.mem_append_right _ (List.mem_map.mpr ⟨r, hr, rfl⟩), h⟩) (fun q hq a ha b hb qa qb => by
    refine h2 a ha b hb ?_
    rw [ge_fd_to]
    rcases List.mem_append.mp hq with hq | hq
    · obtain ⟨r, hr, rfl⟩ := List.mem_map.mp hq
      have l1 := qa.2 b hb qb.1
      have l2 := qb.2 a ha qa.1
      omega
    · obtain ⟨r, hr, rfl⟩ := List.mem_map.mp hq
      have l1 := qa.2 b hb qb.1
      have l2 := qb.2 a ha qa.1
      omega)
  rw [List.length_append, List.length_map, List.length_map] at h3
  omega

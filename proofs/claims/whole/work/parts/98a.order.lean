/-! ===== points by place ===== -/
def ge_lt (p q : ge_R) : Bool := decide (p.1 * q.2.2.2 < q.1 * p.2.2.2) || (decide (p.1 * q.2.2.2 = q.1 * p.2.2.2) && (decide (p.2.1 * q.2.2.2 < q.2.1 * p.2.2.2) || (decide (p.2.1 * q.2.2.2 = q.2.1 * p.2.2.2) && decide (p.2.2.1 * q.2.2.2 < q.2.2.1 * p.2.2.2))))
theorem ge_lt_iff (p q : ge_R) : ge_lt p q = true ↔ p.1 * q.2.2.2 < q.1 * p.2.2.2 ∨ (p.1 * q.2.2.2 = q.1 * p.2.2.2 ∧ (p.2.1 * q.2.2.2 < q.2.1 * p.2.2.2 ∨ (p.2.1 * q.2.2.2 = q.2.1 * p.2.2.2 ∧ p.2.2.1 * q.2.2.2 < q.2.2.1 * p.2.2.2))) := by
  simp only [ge_lt, Bool.or_eq_true, Bool.and_eq_true, decide_eq_true_eq]
theorem ge_fr_le {a b c n m k : Int} (hn : 0 < n) (hm : 0 < m) (hk : 0 < k) (h1 : a * m ≤ b * n) (h2 : b * k ≤ c * m) : a * k ≤ c * n := by
  have a1 := Int.mul_le_mul_of_nonneg_right h1 (Int.le_of_lt hk)
  have a2 := Int.mul_le_mul_of_nonneg_right h2 (Int.le_of_lt hn)
  refine Int.le_of_mul_le_mul_right ?_ hm
  have e1 : a * k * m = a * m * k := by grind
  have e2 : b * n * k = b * k * n := by grind
  have e3 : c * n * m = c * m * n := by grind
  omega
theorem ge_fr_lt {a b c n m k : Int} (hn : 0 < n) (hm : 0 < m) (hk : 0 < k) (h1 : a * m ≤ b * n) (h2 : b * k ≤ c * m) (h3 : a * m < b * n ∨ b * k < c * m) : a * k < c * n := by
  have a1 := Int.mul_le_mul_of_nonneg_right h1 (Int.le_of_lt hk)
  have a2 := Int.mul_le_mul_of_nonneg_right h2 (Int.le_of_lt hn)
  apply Int.lt_of_mul_lt_mul_right (a := m) _ (Int.le_of_lt hm)
  have e1 : a * k * m = a * m * k := by grind
  have e2 : b * n * k = b * k * n := by grind
  have e3 : c * n * m = c * m * n := by grind
  rcases h3 with h3 | h3
  · have := Int.mul_lt_mul_of_pos_right h3 hk
    omega
  · have := Int.mul_lt_mul_of_pos_right h3 hn
    omega
theorem ge_fr_eq {a b c n m k : Int} (hn : 0 < n) (hm : 0 < m) (hk : 0 < k) (h1 : a * m = b * n) (h2 : b * k = c * m) : a * k = c * n := by
  have := ge_fr_le hn hm hk (Int.le_of_eq h1) (Int.le_of_eq h2)
  have := ge_fr_le hk hm hn (Int.le_of_eq h2.symm) (Int.le_of_eq h1.symm)
  omega
theorem ge_lt_tr {p q r : ge_R} (wp : 0 < p.2.2.2) (wq : 0 < q.2.2.2) (wr : 0 < r.2.2.2) (h1 : ge_lt p q = true) (h2 : ge_lt q r = true) : ge_lt p r = true := by
  rw [ge_lt_iff] at *
  have lt := fun {a b c : Int} (h1 : a * q.2.2.2 ≤ b * p.2.2.2) (h2 : b * r.2.2.2 ≤ c * q.2.2.2) (h3 : a * q.2.2.2 < b * p.2.2.2 ∨ b * r.2.2.2 < c * q.2.2.2) => ge_fr_lt wp wq wr h1 h2 h3
  have eq := fun {a b c : Int} (h1 : a * q.2.2.2 = b * p.2.2.2) (h2 : b * r.2.2.2 = c * q.2.2.2) => ge_fr_eq wp wq wr h1 h2
  rcases h1 with h1 | ⟨h1, h1'⟩
  · rcases h2 with h2 | ⟨h2, -⟩
    · exact .inl (lt (by omega) (by omega) (.inl h1))
    · exact .inl (lt (by omega) (by omega) (.inl h1))
  · rcases h2 with h2 | ⟨h2, h2'⟩
    · exact .inl (lt (by omega) (by omega) (.inr h2))
    · refine .inr ⟨eq h1 h2, ?_⟩
      rcases h1' with h1 | ⟨h1, h1'⟩
      · rcases h2' with h2 | ⟨h2, -⟩
        · exact .inl (lt (by omega) (by omega) (.inl h1))
        · exact .inl (lt (by omega) (by omega) (.inl h1))
      · rcases h2' with h2 | ⟨h2, h2'⟩
        · exact .inl (lt (by omega) (by omega) (.inr h2))
        · exact .inr ⟨eq h1 h2, lt (by omega) (by omega) (.inr h2')⟩
theorem ge_lt_ir (p : ge_R) : ge_lt p p = false := by
  rw [← Bool.not_eq_true, ge_lt_iff]
  omega
theorem ge_lt_tot (p q : ge_R) : ge_lt p q = true ∨ ge_lt q p = true ∨ ge_e p q := by
  rw [ge_lt_iff, ge_lt_iff]
  unfold ge_e
  omega
theorem ge_lt_asy {p q : ge_R} (wp : 0 < p.2.2.2) (wq : 0 < q.2.2.2) (h : ge_lt p q = true) : ge_lt q p = false := by
  cases h2 : ge_lt q p
  · rfl
  · have := ge_lt_tr wp wq wp h h2
    rw [ge_lt_ir] at this
    cases this
theorem ge_lt_ne {p q : ge_R} (h : ge_lt p q = true) : ¬ ge_e p q := by
  rw [ge_lt_iff] at h
  unfold ge_e
  omega
/-- sorted by place -/
def ge_ins (x : ge_R × Int) : List (ge_R × Int) → List (ge_R × Int)
  | [] => [x]
  | y :: l => if ge_lt x.1 y.1 = true then x :: y :: l else y :: ge_ins x l
def ge_srt : List (ge_R × Int) → List (ge_R × Int)
  | [] => []
  | x :: l => ge_ins x (ge_srt l)
theorem ge_ins_perm (x : ge_R × Int) : ∀ l, (ge_ins x l).Perm (x :: l)
  | [] => List.Perm.refl _
  | y :: l => by
    unfold ge_ins
    split
    · exact List.Perm.refl _
    · exact ((ge_ins_perm x l).cons y).trans (List.Perm.swap x y l)
theorem ge_srt_perm : ∀ l, (ge_srt l).Perm l
  | [] => List.Perm.refl _
  | x :: l => (ge_ins_perm x (ge_srt l)).trans ((ge_srt_perm l).cons x)
def ge_pos (l : List (ge_R × Int)) : Prop := ∀ x ∈ l, 0 < x.1.2.2.2
theorem ge_ins_sorted {x : ge_R × Int} : ∀ {l : List (ge_R × Int)}, ge_pos (x :: l) → (∀ y ∈ l, ¬ ge_e x.1 y.1) → l.Pairwise (fun a b => ge_lt a.1 b.1 = true) → (ge_ins x l).Pairwise (fun a b => ge_lt a.1 b.1 = true)
  | [], _, _, _ => List.pairwise_singleton _ _
  | y :: l, hp, hn, hs => by
    unfold ge_ins
    rw [List.pairwise_cons] at hs
    split
    · rename_i h
      rw [List.pairwise_cons]
      refine ⟨fun z hz => ?_, List.pairwise_cons.mpr hs⟩
      rcases List.mem_cons.mp hz with rfl | hz
      · exact h
      · exact ge_lt_tr (hp x List.mem_cons_self) (hp y (List.mem_cons_of_mem _ List.mem_cons_self)) (hp z (List.mem_cons_of_mem _ (List.mem_cons_of_mem _ hz))) h (hs.1 z hz)
    · rename_i h
      rw [List.pairwise_cons]
      refine ⟨fun z hz => ?_, ge_ins_sorted (fun z hz => ?_) (fun z hz => hn z (List.mem_cons_of_mem _ hz)) hs.2⟩
      · rcases List.mem_cons.mp ((ge_ins_perm x l).mem_iff.mp hz) with rfl | hz
        · rcases ge_lt_tot z.1 y.1 with h1 | h1 | h1
          · exact absurd h1 h
          · exact h1
          · exact absurd h1 (hn y List.mem_cons_self)
        · exact hs.1 z hz
      · rcases List.mem_cons.mp hz with rfl | hz
        · exact hp z List.mem_cons_self
        · exact hp z (List.mem_cons_of_mem _ (List.mem_cons_of_mem _ hz))
theorem ge_srt_sorted : ∀ {l : List (ge_R × Int)}, ge_pos l → l.Pairwise (fun x y => ¬ ge_e x.1 y.1) → (ge_srt l).Pairwise (fun a b => ge_lt a.1 b.1 = true)
  | [], _, _ => List.Pairwise.nil
  | x :: l, hp, hn => by
    rw [List.pairwise_cons] at hn
    refine ge_ins_sorted (fun z hz => ?_) (fun y hy => hn.1 y ((ge_srt_perm l).mem_iff.mp hy)) (ge_srt_sorted (fun z hz => hp z (List.mem_cons_of_mem _ hz)) hn.2)
    rcases List.mem_cons.mp hz with rfl | hz
    · exact hp z List.mem_cons_self
    · exact hp z (List.mem_cons_of_mem _ ((ge_srt_perm l).mem_iff.mp hz))
/-- how many come ahead -/
def ge_rank (l : List (ge_R × Int)) (x : ge_R) : Nat := l.countP (fun y => ge_lt y.1 x)
theorem ge_rank_at : ∀ {c : List (ge_R × Int)} {i : Nat} {x : ge_R × Int}, ge_pos c → c.Pairwise (fun a b => ge_lt a.1 b.1 = true) → c[i]? = some x → ge_rank c x.1 = i
  | [], _, _, _, _, h => by simp at h
  | y :: c, 0, x, hp, hs, h => by
    cases h
    rw [List.pairwise_cons] at hs
    unfold ge_rank
    rw [List.countP_cons_of_neg (by rw [ge_lt_ir]; decide)]
    rw [List.countP_eq_zero]
    intro z hz
    rw [ge_lt_asy (hp y List.mem_cons_self) (hp z (List.mem_cons_of_mem _ hz)) (hs.1 z hz)]
    decide
  | y :: c, i + 1, x, hp, hs, h => by
    rw [List.pairwise_cons] at hs
    have h : c[i]? = some x := h
    have ih := ge_rank_at (fun z hz => hp z (List.mem_cons_of_mem _ hz)) hs.2 h
    unfold ge_rank at *
    rw [List.countP_cons_of_pos (p := fun y : ge_R × Int => ge_lt y.1 x.1) (show ge_lt y.1 x.1 = true from hs.1 x (List.mem_of_getElem? h)), ih]
theorem ge_rank_perm {l c : List (ge_R × Int)} (h : c.Perm l) (x : ge_R) : ge_rank c x = ge_rank l x := h.countP_eq _
/-- its place in the sorted list -/
theorem ge_rank_srt {l : List (ge_R × Int)} (hp : ge_pos l) (hn : l.Pairwise (fun x y => ¬ ge_e x.1 y.1)) {x : ge_R × Int} (hx : x ∈ l) : (ge_srt l)[ge_rank l x.1]? = some x := by
  have hm := (ge_srt_perm l).mem_iff.mpr hx
  obtain ⟨i, hi⟩ := List.getElem?_of_mem hm
  have hp2 : ge_pos (ge_srt l) := fun z hz => hp z ((ge_srt_perm l).mem_iff.mp hz)
  have := ge_rank_at hp2 (ge_srt_sorted hp hn) hi
  rw [ge_rank_perm (ge_srt_perm l)] at this
  rw [this]
  exact hi

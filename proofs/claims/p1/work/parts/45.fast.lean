/-! ===== the same once more, quicker for the kernel: code as what is left of it, the heap in pages of 16 ===== -/
noncomputable def lget {α : Type} (l : List α) : Nat → Option α :=
  @List.rec α (fun _ => Nat → Option α) (fun _ => none) (fun a _ ih n => @Nat.rec (fun _ => Option α) (some a) (fun m _ => ih m) n) l
noncomputable def lset {α : Type} (l : List α) : Nat → α → List α :=
  @List.rec α (fun _ => Nat → α → List α) (fun _ _ => []) (fun a r ih n x => @Nat.rec (fun _ => List α) (x :: r) (fun m _ => a :: ih m x) n) l
noncomputable def ldrop {α : Type} (l : List α) : Nat → List α :=
  @List.rec α (fun _ => Nat → List α) (fun _ => []) (fun a r ih n => @Nat.rec (fun _ => List α) (a :: r) (fun m _ => ih m) n) l
theorem lget_eq {α : Type} : ∀ (l : List α) (n : Nat), lget l n = l[n]?
  | [], n => by simp [lget]
  | a :: r, 0 => rfl
  | a :: r, n + 1 => (lget_eq r n).trans (by simp)
theorem lset_eq {α : Type} : ∀ (l : List α) (n : Nat) (x : α), lset l n x = l.set n x
  | [], n, x => rfl
  | a :: r, 0, x => rfl
  | a :: r, n + 1, x => congrArg (a :: ·) (lset_eq r n x)
theorem ldrop_eq {α : Type} : ∀ (l : List α) (n : Nat), ldrop l n = l.drop n
  | [], n => by simp [ldrop]
  | a :: r, 0 => rfl
  | a :: r, n + 1 => ldrop_eq r n
/-- pages of 16 -/
abbrev bH : Type := List (List aC)
def bok {α : Type} : List (List α) → Bool
  | [] => true
  | [a] => decide (a.length ≤ 16)
  | a :: b :: r => decide (a.length = 16) && bok (b :: r)
noncomputable def bget {α : Type} (h : List (List α)) (o : Nat) : Option α := match lget h (o / 16) with
  | some p => lget p (o % 16)
  | none => none
noncomputable def bset {α : Type} (h : List (List α)) (o : Nat) (c : α) : List (List α) := match lget h (o / 16) with
  | some p => lset h (o / 16) (lset p (o % 16) c)
  | none => h
theorem bget_lo {α : Type} {a : List α} {r : List (List α)} {o : Nat} (h : o < 16) : bget (a :: r) o = a[o]? := by
  unfold bget
  rw [Nat.div_eq_of_lt h, Nat.mod_eq_of_lt h]
  exact lget_eq a o
theorem bget_hi {α : Type} {a : List α} {r : List (List α)} {o : Nat} (h : ¬ o < 16) : bget (a :: r) o = bget r (o - 16) := by
  unfold bget
  have e1 : o / 16 = (o - 16) / 16 + 1 := by omega
  have e2 : o % 16 = (o - 16) % 16 := by omega
  rw [e1, e2]
  rfl
theorem bset_lo {α : Type} {a : List α} {r : List (List α)} {o : Nat} {c : α} (h : o < 16) : bset (a :: r) o c = a.set o c :: r := by
  unfold bset
  rw [Nat.div_eq_of_lt h, Nat.mod_eq_of_lt h]
  show lset (a :: r) 0 (lset a o c) = _
  rw [lset_eq a]
  rfl
theorem bset_hi {α : Type} {a : List α} {r : List (List α)} {o : Nat} {c : α} (h : ¬ o < 16) : bset (a :: r) o c = a :: bset r (o - 16) c := by
  unfold bset
  have e1 : o / 16 = (o - 16) / 16 + 1 := by omega
  have e2 : o % 16 = (o - 16) % 16 := by omega
  rw [e1, e2]
  show (match lget r ((o - 16) / 16) with
    | some p => lset (a :: r) ((o - 16) / 16 + 1) (lset p ((o - 16) % 16) c)
    | none => a :: r) = _
  split <;> rfl
theorem bget_eq {α : Type} : ∀ {h : List (List α)}, bok h = true → ∀ o, bget h o = h.flatten[o]?
  | [], _, o => by simp [bget, lget_eq]
  | [a], hk, o => by
    have hk : a.length ≤ 16 := of_decide_eq_true hk
    by_cases ho : o < 16
    · rw [bget_lo ho]
      simp
    · rw [bget_hi ho]
      simp [bget, lget_eq]
      omega
  | a :: b :: r, hk, o => by
    have hk : (decide (a.length = 16) && bok (b :: r)) = true := hk
    rw [Bool.and_eq_true, decide_eq_true_eq] at hk
    rw [List.flatten_cons]
    by_cases ho : o < 16
    · rw [bget_lo ho, List.getElem?_append_left (by omega)]
    · rw [bget_hi ho, bget_eq hk.2, List.getElem?_append_right (by omega), hk.1]
theorem bset_eq {α : Type} : ∀ {h : List (List α)}, bok h = true → ∀ o c, (bset h o c).flatten = h.flatten.set o c ∧ bok (bset h o c) = true ∧ (bset h o c).length = h.length
  | [], _, o, c => by simp [bset, lget_eq, bok]
  | [a], hk, o, c => by
    have hk : a.length ≤ 16 := of_decide_eq_true hk
    by_cases ho : o < 16
    · rw [bset_lo ho]
      simp [bok, hk]
    · rw [bset_hi ho]
      have : bset [] (o - 16) c = [] := by simp [bset, lget_eq]
      rw [this]
      simp [bok, hk]
      rw [List.set_eq_of_length_le (by omega)]
  | a :: b :: r, hk, o, c => by
    have hk : (decide (a.length = 16) && bok (b :: r)) = true := hk
    rw [Bool.and_eq_true, decide_eq_true_eq] at hk
    rw [List.flatten_cons]
    by_cases ho : o < 16
    · rw [bset_lo ho, List.flatten_cons, List.set_append, if_pos (by omega)]
      refine ⟨rfl, ?_, rfl⟩
      show (decide ((a.set o c).length = 16) && bok (b :: r)) = true
      rw [List.length_set, Bool.and_eq_true, decide_eq_true_eq]
      exact hk
    · obtain ⟨g1, g2, g3⟩ := bset_eq hk.2 (o - 16) c
      rw [bset_hi ho, List.flatten_cons, List.set_append, if_neg (by omega), g1, hk.1]
      refine ⟨rfl, ?_, by rw [List.length_cons, g3]; rfl⟩
      cases hb : bset (b :: r) (o - 16) c with
      | nil => rw [hb] at g3; cases g3
      | cons x y =>
        show (decide (a.length = 16) && bok (x :: y)) = true
        rw [← hb, g2, Bool.and_true]
        exact decide_eq_true hk.1
abbrev bQ : Type := Option (List aV × bH)
abbrev bR : Type := Option (Option aV × bH)
noncomputable def bgf (k ci : Nat) (st : List aV) (h : bH) : bQ := match st with
  | .inl (.ref o) :: r => match bget h o with
    | some (.inl (c, vs)) => if c = ci then match lget vs k with
      | some v => some (v :: r, h)
      | none => none else none
    | _ => none
  | _ => none
noncomputable def bpf (ty : FieldType) (k ci : Nat) (st : List aV) (h : bH) : bQ := match st with
  | v :: .inl (.ref o) :: r => match bget h o with
    | some (.inl (c, vs)) => if c = ci ∧ 13 ≤ o ∧ k < vs.length ∧ afit ty v = true then some (r, bset h o (.inl (c, lset vs k v))) else none
    | _ => none
  | _ => none
noncomputable def bia (t : Nat) (st : List aV) (h : bH) : bQ := match st with
  | .inl (.int j) :: .inl (.ref o) :: r => match bget h o with
    | some (.inr (.inl (u, xs))) => if (u = t ∨ (t = 1 ∧ u = 2)) ∧ ¬ j < 0 then match lget xs j.toNatClampNeg with
      | some v => some (anv v :: r, h)
      | none => none else none
    | _ => none
  | _ => none
noncomputable def bla (st : List aV) (h : bH) : bQ := match st with
  | .inl (.int j) :: .inl (.ref o) :: r => match bget h o with
    | some (.inr (.inr (.inl xs))) => if ¬ j < 0 then match lget xs j.toNatClampNeg with
      | some v => some (.inl (.long v) :: r, h)
      | none => none else none
    | _ => none
  | _ => none
noncomputable def baa (st : List aV) (h : bH) : bQ := match st with
  | .inl (.int j) :: .inl (.ref o) :: r => match bget h o with
    | some (.inr (.inr (.inr xs))) => if ¬ j < 0 then match lget xs j.toNatClampNeg with
      | some v => some (.inl (.ref v) :: r, h)
      | none => none else none
    | _ => none
  | _ => none
noncomputable def bis (t : Nat) (f : Int32 → Int32) (st : List aV) (h : bH) : bQ := match st with
  | v :: .inl (.int j) :: .inl (.ref o) :: r => match bget h o with
    | some (.inr (.inl (u, xs))) => (match avn f t v with
      | some n => if u = t ∧ 13 ≤ o ∧ ¬ j < 0 ∧ j.toNatClampNeg < xs.length then some (r, bset h o (.inr (.inl (u, lset xs j.toNatClampNeg n)))) else none
      | none => none)
    | _ => none
  | _ => none
noncomputable def bls (st : List aV) (h : bH) : bQ := match st with
  | .inl (.long x) :: .inl (.int j) :: .inl (.ref o) :: r => match bget h o with
    | some (.inr (.inr (.inl xs))) => if 13 ≤ o ∧ ¬ j < 0 ∧ j.toNatClampNeg < xs.length then some (r, bset h o (.inr (.inr (.inl (lset xs j.toNatClampNeg x))))) else none
    | _ => none
  | _ => none
noncomputable def bal (st : List aV) (h : bH) : bQ := match st with
  | .inl (.ref o) :: r => match bget h o with
    | some (.inr (.inl (_, xs))) => some (.inl (.int (Int32.ofNat xs.length)) :: r, h)
    | some (.inr (.inr (.inl xs))) => some (.inl (.int (Int32.ofNat xs.length)) :: r, h)
    | some (.inr (.inr (.inr xs))) => some (.inl (.int (Int32.ofNat xs.length)) :: r, h)
    | _ => none
  | _ => none
section BOK
variable {k ci t : Nat} {ty : FieldType} {f : Int32 → Int32} {st st' : List aV} {h h' : bH}
theorem bgf_ok (hk : bok h = true) (hr : bgf k ci st h = some (st', h')) : agf k ci st h.flatten = some (st', h'.flatten) ∧ bok h' = true := by
  unfold bgf at hr
  simp only [bget_eq hk, lget_eq] at hr
  split at hr <;> try cases hr
  split at hr <;> try cases hr
  rename_i ho
  split at hr <;> try cases hr
  rename_i hc
  split at hr <;> cases hr
  rename_i hv
  refine ⟨?_, hk⟩
  simp only [agf]
  rw [ho]
  simp only
  rw [if_pos hc, hv]
theorem bpf_ok (hk : bok h = true) (hr : bpf ty k ci st h = some (st', h')) : apf ty k ci st h.flatten = some (st', h'.flatten) ∧ bok h' = true := by
  unfold bpf at hr
  simp only [bget_eq hk, lset_eq] at hr
  split at hr <;> try cases hr
  split at hr <;> try cases hr
  rename_i ho
  split at hr <;> cases hr
  rename_i hc
  refine ⟨?_, (bset_eq hk _ _).2.1⟩
  simp only [apf]
  rw [ho]
  simp only
  rw [if_pos hc, (bset_eq hk _ _).1]
theorem bia_ok (hk : bok h = true) (hr : bia t st h = some (st', h')) : aia t st h.flatten = some (st', h'.flatten) ∧ bok h' = true := by
  unfold bia at hr
  simp only [bget_eq hk, lget_eq] at hr
  split at hr <;> try cases hr
  split at hr <;> try cases hr
  rename_i ho
  split at hr <;> try cases hr
  rename_i hc
  split at hr <;> cases hr
  rename_i hv
  refine ⟨?_, hk⟩
  simp only [aia]
  rw [ho]
  simp only
  rw [if_pos hc, hv]
theorem bla_ok (hk : bok h = true) (hr : bla st h = some (st', h')) : ala st h.flatten = some (st', h'.flatten) ∧ bok h' = true := by
  unfold bla at hr
  simp only [bget_eq hk, lget_eq] at hr
  split at hr <;> try cases hr
  split at hr <;> try cases hr
  rename_i ho
  split at hr <;> try cases hr
  rename_i hc
  split at hr <;> cases hr
  rename_i hv
  refine ⟨?_, hk⟩
  simp only [ala]
  rw [ho]
  simp only
  rw [if_pos hc, hv]
theorem baa_ok (hk : bok h = true) (hr : baa st h = some (st', h')) : aaa st h.flatten = some (st', h'.flatten) ∧ bok h' = true := by
  unfold baa at hr
  simp only [bget_eq hk, lget_eq] at hr
  split at hr <;> try cases hr
  split at hr <;> try cases hr
  rename_i ho
  split at hr <;> try cases hr
  rename_i hc
  split at hr <;> cases hr
  rename_i hv
  refine ⟨?_, hk⟩
  simp only [aaa]
  rw [ho]
  simp only
  rw [if_pos hc, hv]
theorem bis_ok (hk : bok h = true) (hr : bis t f st h = some (st', h')) : ais t f st h.flatten = some (st', h'.flatten) ∧ bok h' = true := by
  unfold bis at hr
  simp only [bget_eq hk, lset_eq] at hr
  split at hr <;> try cases hr
  split at hr <;> try cases hr
  rename_i ho
  split at hr <;> try cases hr
  rename_i hn
  split at hr <;> cases hr
  rename_i hc
  refine ⟨?_, (bset_eq hk _ _).2.1⟩
  simp only [ais]
  rw [ho]
  simp only
  rw [hn]
  simp only
  rw [if_pos hc, (bset_eq hk _ _).1]
theorem bls_ok (hk : bok h = true) (hr : bls st h = some (st', h')) : als st h.flatten = some (st', h'.flatten) ∧ bok h' = true := by
  unfold bls at hr
  simp only [bget_eq hk, lset_eq] at hr
  split at hr <;> try cases hr
  split at hr <;> try cases hr
  rename_i ho
  split at hr <;> cases hr
  rename_i hc
  refine ⟨?_, (bset_eq hk _ _).2.1⟩
  simp only [als]
  rw [ho]
  simp only
  rw [if_pos hc, (bset_eq hk _ _).1]
theorem bal_ok (hk : bok h = true) (hr : bal st h = some (st', h')) : aal st h.flatten = some (st', h'.flatten) ∧ bok h' = true := by
  unfold bal at hr
  simp only [bget_eq hk] at hr
  split at hr <;> try cases hr
  split at hr <;> cases hr <;> rename_i ho <;> refine ⟨?_, hk⟩ <;> simp only [aal] <;> rw [ho]
end BOK
/-- a local is written, in one walk -/
noncomputable def bput {β : Type} (ls : aL) : Nat → aV → (aL → β) → β → β :=
  @List.rec (Option aV) (fun _ => Nat → aV → (aL → β) → β → β) (fun _ _ _ e => e)
    (fun a r ih n v c e => @Nat.rec (fun _ => β) (c (some v :: r)) (fun m _ => @Nat.rec (fun _ => β)
      (@List.rec (Option aV) (fun _ => β) e (fun _ r2 _ => c ((@Option.rec aV (fun _ => Option aV) none (fun w => @ite (Option aV) (acat w = 2) (Nat.decEq (acat w) 2) none (some w)) a) :: some v :: r2)) r)
      (fun _ _ => ih m v (fun r' => c (a :: r')) e) m) n) ls
theorem bput_ok {β : Type} : ∀ (ls : aL) (n : Nat) (v : aV) (c : aL → β) (e x : β), bput ls n v c e = x → (n < ls.length ∧ x = c (aset1 ls n v)) ∨ (¬ n < ls.length ∧ x = e)
  | [], n, v, c, e, x, h => Or.inr ⟨by simp, h.symm⟩
  | a :: r, 0, v, c, e, x, h => Or.inl ⟨by simp, h.symm⟩
  | [a], 1, v, c, e, x, h => Or.inr ⟨by simp, h.symm⟩
  | a :: b :: r, 1, v, c, e, x, h => by
    refine Or.inl ⟨by simp, ?_⟩
    rw [← h]
    show c _ = c _
    congr 1
    cases a with
    | none => rfl
    | some w =>
      show (if acat w = 2 then none else some w) :: some v :: r = _
      simp only [aset1, List.getElem?_cons_zero]
      split <;> rfl
  | a :: r, n + 2, v, c, e, x, h => by
    have h : bput r (n + 1) v (fun r' => c (a :: r')) e = x := h
    rcases bput_ok r (n + 1) v _ e x h with ⟨g1, g2⟩ | ⟨g1, g2⟩
    · refine Or.inl ⟨by simp; omega, ?_⟩
      rw [g2]
      show c _ = c _
      congr 1
      cases hrn : r[n]? with
      | none => simp [aset1, hrn]
      | some o =>
        cases o with
        | none => simp [aset1, hrn]
        | some w => by_cases hw : acat w = 2 <;> simp [aset1, hrn, hw]
    · exact Or.inr ⟨by simp; omega, g2⟩
noncomputable def bldi (i : Nat) (ls : aL) (st : List aV) (k : Nat) : aS := match lget ls k with
  | some (some (.inl (.int x))) => some (i + 1, ls, .inl (.int x) :: st)
  | some (some (.inr p)) => some (i + 1, ls, .inr p :: st)
  | _ => none
noncomputable def blda (i : Nat) (ls : aL) (st : List aV) (k : Nat) : aS := match lget ls k with
  | some (some (.inl (.ref x))) => some (i + 1, ls, .inl (.ref x) :: st)
  | _ => none
noncomputable def bsti (i : Nat) (ls : aL) (st : List aV) (k : Nat) : aS := match st with
  | .inl (.int x) :: r => bput ls k (.inl (.int x)) (fun l => some (i + 1, l, r)) none
  | .inr p :: r => bput ls k (.inr p) (fun l => some (i + 1, l, r)) none
  | _ => none
noncomputable def bsta (i : Nat) (ls : aL) (st : List aV) (k : Nat) : aS := match st with
  | .inl (.ref x) :: r => bput ls k (.inl (.ref x)) (fun l => some (i + 1, l, r)) none
  | _ => none
noncomputable def binc (i : Nat) (ls : aL) (st : List aV) (k : Nat) (n : Int32) : aS := match lget ls k with
  | some (some (.inl (.int x))) => bput ls k (.inl (.int (x + n))) (fun l => some (i + 1, l, st)) none
  | _ => none
noncomputable def bps (i a : Nat) (tg : List Nat) (ls : aL) (st : List aV) (ins : Instr) : aS := match ins with
  | .iload k => bldi i ls st k
  | .iload_n k => bldi i ls st (k : Nat)
  | .aload k => blda i ls st k
  | .aload_n k => blda i ls st (k : Nat)
  | .istore k => bsti i ls st k
  | .istore_n k => bsti i ls st (k : Nat)
  | .astore k => bsta i ls st k
  | .astore_n k => bsta i ls st (k : Nat)
  | .iinc k n => binc i ls st k (Int32.ofInt n)
  | x => aps i a tg ls st x
theorem bldi_eq (i : Nat) (ls : aL) (st : List aV) (k : Nat) : bldi i ls st k = aldi i ls st k := by
  unfold bldi aldi
  rw [lget_eq]
  rfl
theorem blda_eq (i : Nat) (ls : aL) (st : List aV) (k : Nat) : blda i ls st k = alda i ls st k := by
  unfold blda alda
  rw [lget_eq]
  rfl
theorem bsti_eq (i : Nat) (ls : aL) (st : List aV) (k : Nat) : bsti i ls st k = asti i ls st k := by
  unfold bsti asti
  split
  · rename_i x r
    simp only
    rcases bput_ok ls k (.inl (.int x)) (fun l => some (i + 1, l, r)) none _ rfl with ⟨g1, g2⟩ | ⟨g1, g2⟩
    · rw [g2, if_pos g1]
    · rw [g2, if_neg g1]
  · rename_i p r
    simp only
    rcases bput_ok ls k (.inr p) (fun l => some (i + 1, l, r)) none _ rfl with ⟨g1, g2⟩ | ⟨g1, g2⟩
    · rw [g2, if_pos g1]
    · rw [g2, if_neg g1]
  · split <;> first | rfl | simp_all
theorem bsta_eq (i : Nat) (ls : aL) (st : List aV) (k : Nat) : bsta i ls st k = asta i ls st k := by
  unfold bsta asta
  split
  · rename_i x r
    simp only
    rcases bput_ok ls k (.inl (.ref x)) (fun l => some (i + 1, l, r)) none _ rfl with ⟨g1, g2⟩ | ⟨g1, g2⟩
    · rw [g2, if_pos g1]
    · rw [g2, if_neg g1]
  · split <;> first | rfl | simp_all
theorem binc_eq (i : Nat) (ls : aL) (st : List aV) (k : Nat) (n : Int32) : binc i ls st k n = ainc i ls st k n := by
  unfold binc ainc
  rw [lget_eq]
  split
  · rename_i x hx
    rw [hx]
    simp only
    rcases bput_ok ls k (.inl (.int (x + n))) (fun l => some (i + 1, l, st)) none _ rfl with ⟨g1, g2⟩ | ⟨g1, g2⟩
    · rw [g2, if_pos g1]
    · rw [g2, if_neg g1]
  · split <;> first | rfl | simp_all
theorem bps_eq (i a : Nat) (tg : List Nat) (ls : aL) (st : List aV) (ins : Instr) : bps i a tg ls st ins = aps i a tg ls st ins := by
  unfold bps
  split
  · exact bldi_eq _ _ _ _
  · exact bldi_eq _ _ _ _
  · exact blda_eq _ _ _ _
  · exact blda_eq _ _ _ _
  · exact bsti_eq _ _ _ _
  · exact bsti_eq _ _ _ _
  · exact bsta_eq _ _ _ _
  · exact bsta_eq _ _ _ _
  · exact binc_eq _ _ _ _ _
  · rfl

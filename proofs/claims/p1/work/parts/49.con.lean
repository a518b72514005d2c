/-! ===== the constructors, for every script: the heap at the law's loop ===== -/
def ah00 : aH := .inl (2000, []) :: xpre.map (fun c => match c with
  | .inl o => .inl (o.1, o.2.map .inl)
  | .inr (.inl x) => .inr (.inl (x.1, x.2.map .inl))
  | .inr (.inr (.inl x)) => .inr (.inr (.inl x))
  | .inr (.inr (.inr x)) => .inr (.inr (.inr x)))
def als1 : aL := [some (.inl (.ref 0)), some (.inl (.ref 13)), some (.inl (.ref 103)), some (.inl (.int 0))]
def eqL {α : Type} (f : α → α → Bool) : List α → List α → Bool
  | [], [] => true
  | a :: as, b :: bs => f a b && eqL f as bs
  | _, _ => false
theorem eqL_ok {α : Type} {f : α → α → Bool} (hf : ∀ a b, f a b = true → a = b) : ∀ as bs, eqL f as bs = true → as = bs
  | [], [], _ => rfl
  | a :: as, b :: bs, h => by
    have h : (f a b && eqL f as bs) = true := h
    rw [Bool.and_eq_true] at h
    rw [hf a b h.1, eqL_ok hf as bs h.2]
  | [], _ :: _, h => by cases h
  | _ :: _, [], h => by cases h
def eqV : aV → aV → Bool
  | .inl (.int x), .inl (.int y) => decide (x = y)
  | .inl (.long x), .inl (.long y) => decide (x = y)
  | .inl (.ref x), .inl (.ref y) => decide (x = y)
  | .inl .null, .inl .null => true
  | .inr p, .inr q => decide (p = q)
  | _, _ => false
theorem eqV_ok (a b : aV) (h : eqV a b = true) : a = b := by
  unfold eqV at h
  split at h
  · rw [of_decide_eq_true h]
  · rw [of_decide_eq_true h]
  · rw [of_decide_eq_true h]
  · rfl
  · rw [of_decide_eq_true h]
  · cases h
def eqC : aC → aC → Bool
  | .inl o, .inl p => decide (o.1 = p.1) && eqL eqV o.2 p.2
  | .inr (.inl o), .inr (.inl p) => decide (o.1 = p.1) && eqL (fun a b : aN => decide (a = b)) o.2 p.2
  | .inr (.inr (.inl o)), .inr (.inr (.inl p)) => decide (o = p)
  | .inr (.inr (.inr o)), .inr (.inr (.inr p)) => decide (o = p)
  | _, _ => false
theorem eqC_ok (a b : aC) (h : eqC a b = true) : a = b := by
  unfold eqC at h
  split at h
  · rename_i o p
    rw [Bool.and_eq_true, decide_eq_true_eq] at h
    obtain ⟨h1, h2⟩ := h
    have := eqL_ok eqV_ok _ _ h2
    obtain ⟨o1, o2⟩ := o
    obtain ⟨p1, p2⟩ := p
    simp only at h1 this
    rw [h1, this]
  · rename_i o p
    rw [Bool.and_eq_true, decide_eq_true_eq] at h
    obtain ⟨h1, h2⟩ := h
    have := eqL_ok (fun a b h => of_decide_eq_true h) _ _ h2
    obtain ⟨o1, o2⟩ := o
    obtain ⟨p1, p2⟩ := p
    simp only at h1 this
    rw [h1, this]
  · rw [of_decide_eq_true h]
  · rw [of_decide_eq_true h]
  · cases h
def eqO : Option aV → Option aV → Bool
  | none, none => true
  | some a, some b => eqV a b
  | _, _ => false
theorem eqO_ok (a b : Option aV) (h : eqO a b = true) : a = b := by
  cases a <;> cases b <;> first | rfl | cases h | exact congrArg some (eqV_ok _ _ h)
def eqS (r : Option (Nat × aL × List aV × aH)) (i : Nat) (ls : aL) (st : List aV) (h : aH) : Bool := match r with
  | some (i', ls', st', h') => decide (i' = i) && (eqL eqO ls' ls && (eqL eqV st' st && eqL eqC h' h))
  | none => false
theorem eqS_ok {r : Option (Nat × aL × List aV × aH)} {i : Nat} {ls : aL} {st : List aV} {h : aH} (e : eqS r i ls st h = true) : r = some (i, ls, st, h) := by
  unfold eqS at e
  split at e
  · rw [Bool.and_eq_true, Bool.and_eq_true, Bool.and_eq_true, decide_eq_true_eq] at e
    obtain ⟨rfl, e2, e3, e4⟩ := e
    rw [eqL_ok eqO_ok _ _ e2, eqL_ok eqV_ok _ _ e3, eqL_ok eqC_ok _ _ e4]
  · cases e
set_option maxRecDepth 100000 in
theorem con_runb : eqS (apre xft xP (aex xft xP 200000 100) md_law 10 0 (aent 4 [.inl (.ref 0)]) [] ah00) 10 als1 [] ah1.flatten = true := by decide +kernel
theorem con_run : apre xft xP (aex xft xP 200000 100) md_law 10 0 (aent 4 [.inl (.ref 0)]) [] ah00 = some (10, als1, [], ah1.flatten) := eqS_ok con_runb
theorem ah00_ok (scr : List Int32) : gH ah00 (xh0 scr) := by
  have h : ∀ l : xH, gH (l.map (fun c => match c with
    | .inl o => .inl (o.1, o.2.map .inl)
    | .inr (.inl x) => .inr (.inl (x.1, x.2.map .inl))
    | .inr (.inr (.inl x)) => .inr (.inr (.inl x))
    | .inr (.inr (.inr x)) => .inr (.inr (.inr x)))) l := by
    intro l
    induction l with
    | nil => trivial
    | cons c l ih =>
      refine ⟨Or.inr ?_, ih⟩
      have hv : ∀ l : List Value, gA gV (l.map .inl) l := by
        intro l
        induction l with
        | nil => trivial
        | cons v l ih => exact ⟨rfl, ih⟩
      have hn : ∀ l : List Int32, gA gN (l.map .inl) l := by
        intro l
        induction l with
        | nil => trivial
        | cons v l ih => exact ⟨rfl, ih⟩
      match c with
      | .inl o => exact ⟨rfl, hv _⟩
      | .inr (.inl x) => exact ⟨rfl, hn _⟩
      | .inr (.inr (.inl x)) => exact rfl
      | .inr (.inr (.inr x)) => exact rfl
  exact ⟨Or.inl rfl, h _⟩
theorem gL_ex : ∀ {vs : List Value} {ls : xL}, gL (vs.map (fun v => some (.inl v))) ls → ls = vs.map some
  | [], [], _ => rfl
  | v :: vs, some w :: ls, h => by
    rw [show w = v from h.1, gL_ex h.2]
    rfl
  | v :: vs, none :: ls, h => h.1.elim
  | [], _ :: _, h => h.elim
  | _ :: _, [], h => h.elim
/-- from the entry to the loop -/
theorem con_ok (scr : List Int32) : ∃ h1, gH ah1.flatten h1 ∧ h1[0]? = some (.inr (.inl (0, scr))) ∧ ∀ g, xrun xft xP (xex xft xP 200000 100) md_law (10 + g) 0 (xent 4 [.ref 0]) [] (xh0 scr) = xrun xft xP (xex xft xP 200000 100) md_law g 10 [some (.ref 0), some (.ref 13), some (.ref 103), some (.int 0)] [] h1 := by
  obtain ⟨ls', st', h', k1, k2, k3, k5, k4⟩ := apre_ok (call := xex xft xP 200000 100) (fun k vs h r h' q1 q2 => xex_low 100 k vs h r h' q1 q2) (fun k as ah ar ah' vs h q1 q2 q3 => aex_ok 100 k as ah ar ah' vs h q1 q2 q3) _ _ _ _ _ _ _ _ _ con_run (xent 4 [.ref 0]) [] (xh0 scr) (aent_ok ⟨rfl, trivial⟩) trivial (ah00_ok scr)
  have e1 : ls' = [some (.ref 0), some (.ref 13), some (.ref 103), some (.int 0)] := gL_ex (vs := [.ref 0, .ref 13, .ref 103, .int 0]) k1
  have e2 : st' = [] := by
    cases st' with
    | nil => rfl
    | cons v st => exact k2.elim
  subst e1
  subst e2
  have hl : 13 ≤ (xh0 scr).length := (show 13 ≤ 13 from Nat.le_refl _)
  exact ⟨h', k3, ((k5 hl).2 0 (by decide)).trans rfl, k4⟩
/-- the loop's heap with what is known of the script -/
theorem con_row {h1 : xH} {scr : List Int32} (h : gH ah1.flatten h1) (h0 : h1[0]? = some (.inr (.inl (0, scr)))) {row : List aN} (hr : gA gN row scr) : gH (bset ah1 0 (.inr (.inl (0, row)))).flatten h1 := by
  rw [(bset_eq ah1_ok 0 _).1]
  have := gA_set h 0 (a := .inr (.inl (0, row))) (b := .inr (.inl (0, scr))) (Or.inr ⟨rfl, hr⟩)
  rw [List.getElem?_eq_some_iff] at h0
  obtain ⟨h3, h4⟩ := h0
  rw [← h4, List.set_getElem_self] at this
  exact this
def aiN (p : Int32 × Int32) : aN := if p.1 = p.2 then .inl p.1 else .inr p
theorem aiN_ok {p : Int32 × Int32} {x : Int32} (h : gI p x) : gN (aiN p) x := by
  unfold aiN
  split
  · rename_i e
    unfold gI at h
    rw [if_pos (by rw [e]; exact Int32.le_refl _)] at h
    show x = p.1
    exact Int32.le_antisymm (by rw [e]; exact h.2) h.1
  · exact h
theorem aiN_row {b : aB} {xs : List Int32} (h : gB b xs) : gA gN (b.map aiN) xs := by
  have := gA_map (f := aiN) (k := fun x : Int32 => x) (g' := gN) (fun a b h => aiN_ok h) h
  rwa [List.map_id'] at this
/-- what the quick engine tells of a run from the loop on, for a box -/
noncomputable def bans (call : Nat → List aV → bH → bR) (f i : Nat) (st : List aV) (b : aB) : Bool := match crun xft xPb call md_law f i (ldrop md_law i) (als1) st (bset ah1 0 (.inr (.inl (0, b.map aiN)))) with
  | some (some (.inl (.int v)), h) => decide (v = 1) && (anod h.flatten && (decide (h.flatten.length ≤ 1000) && decide (asz h.flatten ≤ 100000)))
  | _ => false
theorem bans_ok {call : Nat → List aV → bH → bR} (hcall : ∀ k as h r, call k as h = some r → bex xft xPb 200000 100 k as h = some r) {f i : Nat} {ast : List aV} {b : aB} (h : bans call f i ast b = true) {st : List Value} (hst : gS ast st) {h1 : xH} {scr : List Int32} (hb : gB b scr) (hh : gH ah1.flatten h1) (h0 : h1[0]? = some (.inr (.inl (0, scr)))) : ∃ h', xrun xft xP (xex xft xP 200000 100) md_law f i [some (.ref 0), some (.ref 13), some (.ref 103), some (.int 0)] st h1 = some (some (.int 1), h') ∧ h'.length ≤ 1000 ∧ xsz h' ≤ 100000 := by
  unfold bans at h
  split at h
  · rename_i v h2 hr
    rw [Bool.and_eq_true, Bool.and_eq_true, Bool.and_eq_true, decide_eq_true_eq, decide_eq_true_eq, decide_eq_true_eq] at h
    obtain ⟨rfl, g1, g2, g3⟩ := h
    have hbk : bok (bset ah1 0 (.inr (.inl (0, b.map aiN)))) = true := (bset_eq ah1_ok 0 _).2.1
    have r1 := crun_ok (bcall := bex xft xPb 200000 100) hcall _ _ _ _ _ _ _ hr
    obtain ⟨r2, -⟩ := brun_ok xPb_ok (acall := aex xft xPb.flatten 200000 100) (fun k as h r h' q1 q2 => bex_ok xPb_ok 100 k as h r h' q1 q2) _ _ _ _ _ _ _ _ (ldrop_eq _ _) r1 hbk
    rw [xPb_eq] at r2
    obtain ⟨r, h', e1, e2, e3⟩ := arun_ok (call := xex xft xP 200000 100) (fun k as ah ar ah' vs h q1 q2 q3 => aex_ok 100 k as ah ar ah' vs h q1 q2 q3) _ _ _ _ _ _ _ r2 [some (.ref 0), some (.ref 13), some (.ref 103), some (.int 0)] st h1 ⟨rfl, rfl, rfl, rfl, trivial⟩ hst (con_row hh h0 (aiN_row hb))
    refine ⟨h', ?_, by rw [← gA_len e3]; exact g2, by rw [← asz_ok e3 g1]; exact g3⟩
    rw [e1]
    match r, e2 with
    | some w, e2 => rw [show w = .int 1 from e2]
  · cases h

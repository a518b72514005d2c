/-! ===== what is known: heap, calls, whole methods ===== -/
def afit (ty : FieldType) : aV → Bool
  | .inl v => fits ty v && decide (narrow ty v = v)
  | .inr _ => decide (ty = .int)
def agf (k ci : Nat) (st : List aV) (h : aH) : aQ := match st with
  | .inl (.ref o) :: r => match h[o]? with
    | some (.inl (c, vs)) => if c = ci then match vs[k]? with
      | some v => some (v :: r, h)
      | none => none else none
    | _ => none
  | _ => none
def apf (ty : FieldType) (k ci : Nat) (st : List aV) (h : aH) : aQ := match st with
  | v :: .inl (.ref o) :: r => match h[o]? with
    | some (.inl (c, vs)) => if c = ci ∧ 13 ≤ o ∧ k < vs.length ∧ afit ty v = true then some (r, h.set o (.inl (c, vs.set k v))) else none
    | _ => none
  | _ => none
def anv : aN → aV
  | .inl x => .inl (.int x)
  | .inr p => .inr p
def aia (t : Nat) (st : List aV) (h : aH) : aQ := match st with
  | .inl (.int j) :: .inl (.ref o) :: r => match h[o]? with
    | some (.inr (.inl (u, xs))) => if (u = t ∨ (t = 1 ∧ u = 2)) ∧ ¬ j < 0 then match xs[j.toNatClampNeg]? with
      | some v => some (anv v :: r, h)
      | none => none else none
    | _ => none
  | _ => none
def ala (st : List aV) (h : aH) : aQ := match st with
  | .inl (.int j) :: .inl (.ref o) :: r => match h[o]? with
    | some (.inr (.inr (.inl xs))) => if ¬ j < 0 then match xs[j.toNatClampNeg]? with
      | some v => some (.inl (.long v) :: r, h)
      | none => none else none
    | _ => none
  | _ => none
def aaa (st : List aV) (h : aH) : aQ := match st with
  | .inl (.int j) :: .inl (.ref o) :: r => match h[o]? with
    | some (.inr (.inr (.inr xs))) => if ¬ j < 0 then match xs[j.toNatClampNeg]? with
      | some v => some (.inl (.ref v) :: r, h)
      | none => none else none
    | _ => none
  | _ => none
def avn (f : Int32 → Int32) (t : Nat) : aV → Option aN
  | .inl (.int x) => some (.inl (f x))
  | .inr p => if t = 0 then some (.inr p) else some (.inr aTop)
  | _ => none
def ais (t : Nat) (f : Int32 → Int32) (st : List aV) (h : aH) : aQ := match st with
  | v :: .inl (.int j) :: .inl (.ref o) :: r => match h[o]? with
    | some (.inr (.inl (u, xs))) => (match avn f t v with
      | some n => if u = t ∧ 13 ≤ o ∧ ¬ j < 0 ∧ j.toNatClampNeg < xs.length then some (r, h.set o (.inr (.inl (u, xs.set j.toNatClampNeg n)))) else none
      | none => none)
    | _ => none
  | _ => none
def als (st : List aV) (h : aH) : aQ := match st with
  | .inl (.long x) :: .inl (.int j) :: .inl (.ref o) :: r => match h[o]? with
    | some (.inr (.inr (.inl xs))) => if 13 ≤ o ∧ ¬ j < 0 ∧ j.toNatClampNeg < xs.length then some (r, h.set o (.inr (.inr (.inl (xs.set j.toNatClampNeg x))))) else none
    | _ => none
  | _ => none
def aal (st : List aV) (h : aH) : aQ := match st with
  | .inl (.ref o) :: r => match h[o]? with
    | some (.inr (.inl (_, xs))) => some (.inl (.int (Int32.ofNat xs.length)) :: r, h)
    | some (.inr (.inr (.inl xs))) => some (.inl (.int (Int32.ofNat xs.length)) :: r, h)
    | some (.inr (.inr (.inr xs))) => some (.inl (.int (Int32.ofNat xs.length)) :: r, h)
    | _ => none
  | _ => none
def anw (ci : Nat) (ft : List (List FieldType)) (st : List aV) (h : aH) : aQ := match ft[ci]? with
  | some tys => if h.length < 1048576 then some (.inl (.ref h.length) :: st, h ++ [.inl (ci, tys.map (fun t => .inl (defaultValue t)))]) else none
  | none => none
def ana (t : ArrayType) (st : List aV) (h : aH) : aQ := match st with
  | .inl (.int n) :: r => if ¬ n < 0 ∧ n.toNatClampNeg ≤ 10000 ∧ h.length < 1048576 then match t with
    | .int => some (.inl (.ref h.length) :: r, h ++ [.inr (.inl (0, List.replicate n.toNatClampNeg (.inl 0)))])
    | .byte => some (.inl (.ref h.length) :: r, h ++ [.inr (.inl (1, List.replicate n.toNatClampNeg (.inl 0)))])
    | .long => some (.inl (.ref h.length) :: r, h ++ [.inr (.inr (.inl (List.replicate n.toNatClampNeg 0)))])
    | _ => none else none
  | _ => none
def ama (st : List aV) (h : aH) : aQ := match st with
  | .inl (.int k) :: .inl (.int n) :: r => if ¬ n < 0 ∧ ¬ k < 0 ∧ n.toNatClampNeg ≤ 1000 ∧ k.toNatClampNeg ≤ 1000 ∧ h.length + n.toNatClampNeg < 1048576 then
      some (.inl (.ref h.length) :: r, h ++ (.inr (.inr (.inr ((List.range n.toNatClampNeg).map (fun i => h.length + 1 + i)))) :: List.replicate n.toNatClampNeg (.inr (.inl (0, List.replicate k.toNatClampNeg (.inl 0)))))) else none
  | _ => none
def aci (a : Nat) (tg : List Nat) (st : List aV) (h : aH) : aQ := match tg with
  | [] => some (.inl (.int (Int32.ofNat a)) :: st, h)
  | _ => some (.inl (.ref a) :: st, h)
def ags (a : Nat) (st : List aV) (h : aH) : aQ := match a with
  | 0 => some (.inl (.int 1) :: st, h)
  | _ => some (.inl (.retAddr 0) :: st, h)
def ahs (ft : List (List FieldType)) (a : Nat) (tg : List Nat) (st : List aV) (h : aH) : Instr → aQ
  | .getfield _ => agf a (tg.headD 0) st h
  | .putfield _ => apf (((ft.getD (tg.headD 0) []).getD a .int)) a (tg.headD 0) st h
  | .iaload => aia 0 st h
  | .baload => aia 1 st h
  | .laload => ala st h
  | .aaload => aaa st h
  | .iastore => ais 0 (fun x => x) st h
  | .bastore => ais 1 (fun x => x.toInt8.toInt32) st h
  | .lastore => als st h
  | .arraylength => aal st h
  | .new _ => anw a ft st h
  | .newarray t => ana t st h
  | .multianewarray _ _ => ama st h
  | .ldc _ => aci a tg st h
  | .ldc_w _ => (match tg with
    | [] => some (.inl (.int (Int32.ofNat a)) :: st, h)
    | _ => none)
  | .getstatic _ => ags a st h
  | .ldc2_w _ => some (.inl (.long (Int64.ofNat a)) :: st, h)
  | _ => none
def arc (ci : Nat) (as : List aV) (h : aH) : Bool := match as with
  | .inl (.ref o) :: _ => (match h[o]? with
    | some (.inl (c, _)) => c == ci && decide (c ≠ 2000)
    | _ => false)
  | _ => false
def acw (st : List aV) : Nat := (st.map acat).sum
def aca (P : List xM) (a : Nat) (st : List aV) (h : aH) : Option (List aV × List aV) := match P[a]? with
  | none => none
  | some M => if (if M.kind = 0 then M.np else M.np + 1) ≤ st.length ∧ acw (st.drop (if M.kind = 0 then M.np else M.np + 1)) ≤ 8 ∧ (M.kind = 0 ∨ arc M.ci (st.take (if M.kind = 0 then M.np else M.np + 1)).reverse h = true) then some ((st.take (if M.kind = 0 then M.np else M.np + 1)).reverse, st.drop (if M.kind = 0 then M.np else M.np + 1)) else none
def acp (xs ys : List aN) (sp dp n : Nat) : List aN := ys.take dp ++ ((xs.drop sp).take n ++ ys.drop (dp + n))
def abt (a : Nat) (st : List aV) (h : aH) : aQ := match a with
  | 0 => (match st with
    | .inl (.ref _) :: r => if acw r ≤ 8 then some (r, h) else none
    | _ => none)
  | 1 => (match st with
    | .inl (.int n) :: .inl (.int dp) :: .inl (.ref d) :: .inl (.int sp) :: .inl (.ref o) :: r => (match h[o]?, h[d]? with
      | some (.inr (.inl (0, xs))), some (.inr (.inl (0, ys))) => if acw r ≤ 8 ∧ 13 ≤ d ∧ ¬ sp < 0 ∧ ¬ dp < 0 ∧ ¬ n < 0 ∧ sp.toNatClampNeg + n.toNatClampNeg ≤ xs.length ∧ dp.toNatClampNeg + n.toNatClampNeg ≤ ys.length then some (r, h.set d (.inr (.inl (0, acp xs ys sp.toNatClampNeg dp.toNatClampNeg n.toNatClampNeg)))) else none
      | _, _ => none)
    | _ => none)
  | 2 => (match st with
    | .inl (.int x) :: r => if acw r ≤ 8 then some (.inl (.int (if 0 ≤ x then x else 0 - x)) :: r, h) else none
    | _ => none)
  | 3 => (match st with
    | .inl (.long x) :: r => if acw r ≤ 8 then some (.inl (.long (if 0 < x then x else -x)) :: r, h) else none
    | _ => none)
  | 4 => (match st with
    | .inl (.int y) :: .inl (.int x) :: r => if acw r ≤ 8 then some (.inl (.int (if x < y then y else x)) :: r, h) else none
    | _ => none)
  | 5 => (match st with
    | .inl (.int y) :: .inl (.int x) :: r => if acw r ≤ 8 then some (.inl (.int (if y < x then y else x)) :: r, h) else none
    | _ => none)
  | _ => none
def aend (st : List aV) (h : aH) : Instr → aR
  | .ireturn => (match st with
    | [.inl (.int v)] => some (some (.inl (.int v)), h)
    | [.inr p] => some (some (.inr p), h)
    | _ => none)
  | .lreturn => (match st with
    | [.inl (.long v)] => some (some (.inl (.long v)), h)
    | _ => none)
  | .return_ => (match st with
    | [] => some (none, h)
    | _ => none)
  | _ => none
def arun (ft : List (List FieldType)) (P : List xM) (call : Nat → List aV → aH → aR) (cd : List xI) : Nat → Nat → aL → List aV → aH → aR
  | 0, _, _, _, _ => none
  | f + 1, i, ls, st, h => match cd[i]? with
    | none => none
    | some q => match aps i q.2.2.2.1 q.2.2.2.2 ls st q.2.1 with
      | some n => arun ft P call cd f n.1 n.2.1 n.2.2 h
      | none => match ahs ft q.2.2.2.1 q.2.2.2.2 st h q.2.1 with
        | some n => arun ft P call cd f (i + 1) ls n.1 n.2
        | none => match xisc q.2.1 with
          | false => aend st h q.2.1
          | true => match q.2.2.2.2 with
            | [] => (match aca P q.2.2.2.1 st h with
              | none => none
              | some c => match call q.2.2.2.1 c.1 h with
                | none => none
                | some r => arun ft P call cd f (i + 1) ls (r.1.toList ++ c.2) r.2)
            | _ => (match abt q.2.2.2.1 st h with
              | none => none
              | some n => arun ft P call cd f (i + 1) ls n.1 n.2)
def aes : List aV → aL
  | [] => []
  | v :: vs => if acat v = 2 then some v :: none :: aes vs else some v :: aes vs
def aent (n : Nat) (as : List aV) : aL := aes as ++ List.replicate (n - (aes as).length) none
def arok (t : Option FieldType) (r : Option aV) : Bool := match r with
  | none => xrok t none
  | some (.inl v) => xrok t (some v)
  | some (.inr _) => decide (t = some .int)
def aex (ft : List (List FieldType)) (P : List xM) (F : Nat) : Nat → Nat → List aV → aH → aR
  | 0, _, _, _ => none
  | d + 1, k, as, h => match P[k]? with
    | none => none
    | some M => if (aes as).length ≤ M.maxL then match arun ft P (aex ft P F d) M.cd F 0 (aent M.maxL as) [] h with
      | none => none
      | some r => if arok M.ret r.1 then some r else none else none
/-! what is known stays right -/
theorem gH_get {ah : aH} {h : xH} (hg : gH ah h) {o : Nat} {c : aC} (ho : ah[o]? = some c) : ∃ c', h[o]? = some c' ∧ gD c c' := gA_get hg ho
theorem gC_ob {ci : Nat} {vs : List aV} {c' : xC} (h : gC (.inl (ci, vs)) c') : ∃ ws, c' = .inl (ci, ws) ∧ gA gV vs ws := by
  match c', h with
  | .inl (cj, ws), h =>
    obtain ⟨h1, h2⟩ := h
    have h1 : ci = cj := h1
    subst h1
    exact ⟨ws, rfl, h2⟩
theorem gC_ai {t : Nat} {xs : List aN} {c' : xC} (h : gC (.inr (.inl (t, xs))) c') : ∃ ys, c' = .inr (.inl (t, ys)) ∧ gA gN xs ys := by
  match c', h with
  | .inr (.inl (u, ys)), h =>
    obtain ⟨h1, h2⟩ := h
    have h1 : t = u := h1
    subst h1
    exact ⟨ys, rfl, h2⟩
theorem gC_al {xs : List Int64} {c' : xC} (h : gC (.inr (.inr (.inl xs))) c') : c' = .inr (.inr (.inl xs)) := by
  match c', h with
  | .inr (.inr (.inl ys)), h => rw [show xs = ys from h]
theorem gC_ar {xs : List Nat} {c' : xC} (h : gC (.inr (.inr (.inr xs))) c') : c' = .inr (.inr (.inr xs)) := by
  match c', h with
  | .inr (.inr (.inr ys)), h => rw [show xs = ys from h]
theorem gD_ob {ci : Nat} {vs : List aV} {c' : xC} (h : gD (.inl (ci, vs)) c') (hk : ¬ (ci = 2000 ∧ vs = [])) : ∃ ws, c' = .inl (ci, ws) ∧ gA gV vs ws := by
  rcases h with h | h
  · cases h
    exact absurd ⟨rfl, rfl⟩ hk
  · exact gC_ob h
theorem gD_ai {t : Nat} {xs : List aN} {c' : xC} (h : gD (.inr (.inl (t, xs))) c') : ∃ ys, c' = .inr (.inl (t, ys)) ∧ gA gN xs ys := by
  rcases h with h | h
  · cases h
  · exact gC_ai h
theorem gD_al {xs : List Int64} {c' : xC} (h : gD (.inr (.inr (.inl xs))) c') : c' = .inr (.inr (.inl xs)) := by
  rcases h with h | h
  · cases h
  · exact gC_al h
theorem gD_ar {xs : List Nat} {c' : xC} (h : gD (.inr (.inr (.inr xs))) c') : c' = .inr (.inr (.inr xs)) := by
  rcases h with h | h
  · cases h
  · exact gC_ar h
theorem gS_ref {o : Nat} {r : List aV} {st : List Value} (h : gS (.inl (.ref o) :: r) st) : ∃ st', st = .ref o :: st' ∧ gS r st' := by
  cases st with
  | nil => exact h.elim
  | cons v st =>
    obtain ⟨hv, hs⟩ := h
    have hv : v = .ref o := hv
    exact ⟨st, by rw [hv], hs⟩
theorem gS_e {w : Value} {r : List aV} {st : List Value} (h : gS (.inl w :: r) st) : ∃ st', st = w :: st' ∧ gS r st' := by
  cases st with
  | nil => exact h.elim
  | cons v st =>
    obtain ⟨hv, hs⟩ := h
    have hv : v = w := hv
    exact ⟨st, by rw [hv], hs⟩
theorem gS_c {a : aV} {r : List aV} {st : List Value} (h : gS (a :: r) st) : ∃ v st', st = v :: st' ∧ gV a v ∧ gS r st' := by
  cases st with
  | nil => exact h.elim
  | cons v st => exact ⟨v, st, rfl, h.1, h.2⟩
theorem afit_ok {ty : FieldType} {a : aV} {v : Value} (hg : gV a v) (h : afit ty a = true) : fits ty v = true ∧ narrow ty v = v := by
  match a, hg with
  | .inl w, hg =>
    rw [show v = w from hg]
    have h : (fits ty w && decide (narrow ty w = w)) = true := h
    simpa using h
  | .inr p, hg =>
    obtain ⟨x, rfl, -⟩ := hg
    have h : ty = .int := of_decide_eq_true h
    subst h
    exact ⟨rfl, rfl⟩
theorem anv_ok {n : aN} {x : Int32} (h : gN n x) : gV (anv n) (.int x) := by
  match n, h with
  | .inl y, h => exact congrArg Value.int (show x = y from h)
  | .inr p, h => exact ⟨x, rfl, h⟩
theorem avn_ok {f : Int32 → Int32} {t : Nat} {a : aV} {v : Value} {n : aN} (hg : gV a v) (hf : t = 0 → ∀ x, f x = x) (h : avn f t a = some n) : ∃ x, v = .int x ∧ gN n (f x) := by
  match a, hg with
  | .inl w, hg =>
    have hg : v = w := hg
    subst hg
    match v, h with
    | .int x, h =>
      have h : some (Sum.inl (f x)) = some n := h
      cases h
      exact ⟨x, rfl, rfl⟩
  | .inr p, hg =>
    obtain ⟨x, rfl, hx⟩ := hg
    have h : (if t = 0 then some (Sum.inr p) else some (Sum.inr aTop)) = some n := h
    split at h
    · rename_i ht
      cases h
      exact ⟨x, rfl, by rw [hf ht]; exact hx⟩
    · cases h
      exact ⟨x, rfl, aTop_gI _⟩
theorem gA_dflt : ∀ tys : List FieldType, gA gV (tys.map (fun t => Sum.inl (defaultValue t))) (tys.map defaultValue)
  | [] => trivial
  | t :: tys => ⟨rfl, gA_dflt tys⟩
section AHS
variable {ft : List (List FieldType)} {a : Nat} {tg : List Nat} {ast : List aV} {ah : aH} {st : List Value} {h : xH} {ast' : List aV} {ah' : aH}
theorem agf_ok {k ci : Nat} (hr : agf k ci ast ah = some (ast', ah')) (hs : gS ast st) (hh : gH ah h) : ∃ st' h', xgf k ci st h = some (st', h') ∧ gS ast' st' ∧ gH ah' h' := by
  unfold agf at hr
  split at hr <;> try cases hr
  rename_i o r
  obtain ⟨s1, e1, hs1⟩ := gS_e hs
  subst e1
  split at hr <;> try cases hr
  rename_i c vs ho
  obtain ⟨c', ho', hc⟩ := gH_get hh ho
  split at hr <;> try cases hr
  rename_i hci
  split at hr <;> cases hr
  rename_i v hv
  obtain ⟨ws, e2, hws⟩ := gD_ob hc (fun q => by rw [q.2] at hv; simp at hv)
  subst e2
  obtain ⟨w, hw, hgw⟩ := gA_get hws hv
  have e : xgf k ci (.ref o :: s1) h = some (w :: s1, h) := by
    simp only [xgf, ho']
    rw [if_pos hci]
    simp only [hw]
  exact ⟨_, _, e, ⟨hgw, hs1⟩, hh⟩
theorem apf_ok {ty : FieldType} {k ci : Nat} (hr : apf ty k ci ast ah = some (ast', ah')) (hs : gS ast st) (hh : gH ah h) : ∃ st' h', xpf ty k ci st h = some (st', h') ∧ gS ast' st' ∧ gH ah' h' := by
  unfold apf at hr
  split at hr <;> try cases hr
  rename_i av o r
  obtain ⟨v, s1, e1, hv, hs1⟩ := gS_c hs
  subst e1
  obtain ⟨s2, e2, hs2⟩ := gS_e hs1
  subst e2
  split at hr <;> try cases hr
  rename_i c vs ho
  obtain ⟨c', ho', hc⟩ := gH_get hh ho
  split at hr
  · rename_i hcs
    obtain ⟨g1, g2, g3, g4⟩ := hcs
    cases hr
    obtain ⟨ws, e3, hws⟩ := gD_ob hc (fun q => by rw [q.2] at g3; simp at g3)
    subst e3
    have g5 := afit_ok hv g4
    have e : xpf ty k ci (v :: .ref o :: s2) h = some (s2, h.set o (.inl (c, ws.set k v))) := by
      simp only [xpf, ho']
      rw [if_pos ⟨g1, g2, by rw [← gA_len hws]; exact g3, g5.1, g5.2⟩]
    exact ⟨_, _, e, hs2, gA_set hh _ (Or.inr ⟨rfl, gA_set hws _ hv⟩)⟩
  · cases hr
theorem aia_ok {t : Nat} (hr : aia t ast ah = some (ast', ah')) (hs : gS ast st) (hh : gH ah h) : ∃ st' h', xia t st h = some (st', h') ∧ gS ast' st' ∧ gH ah' h' := by
  unfold aia at hr
  split at hr <;> try cases hr
  rename_i j o r
  obtain ⟨s1, e1, hs1⟩ := gS_e hs
  subst e1
  obtain ⟨s2, e2, hs2⟩ := gS_e hs1
  subst e2
  split at hr <;> try cases hr
  rename_i u xs ho
  obtain ⟨c', ho', hc⟩ := gH_get hh ho
  obtain ⟨ws, e3, hws⟩ := gD_ai hc
  subst e3
  split at hr <;> try cases hr
  rename_i hcs
  split at hr <;> cases hr
  rename_i v hv
  obtain ⟨w, hw, hgw⟩ := gA_get hws hv
  have e : xia t (.int j :: .ref o :: s2) h = some (.int w :: s2, h) := by
    simp only [xia, ho']
    rw [if_pos hcs]
    simp only [hw]
  exact ⟨_, _, e, ⟨anv_ok hgw, hs2⟩, hh⟩
theorem ala_ok (hr : ala ast ah = some (ast', ah')) (hs : gS ast st) (hh : gH ah h) : ∃ st' h', xla st h = some (st', h') ∧ gS ast' st' ∧ gH ah' h' := by
  unfold ala at hr
  split at hr <;> try cases hr
  rename_i j o r
  obtain ⟨s1, e1, hs1⟩ := gS_e hs
  subst e1
  obtain ⟨s2, e2, hs2⟩ := gS_e hs1
  subst e2
  split at hr <;> try cases hr
  rename_i xs ho
  obtain ⟨c', ho', hc⟩ := gH_get hh ho
  have e3 := gD_al hc
  subst e3
  split at hr <;> try cases hr
  rename_i hcs
  split at hr <;> cases hr
  rename_i v hv
  have e : xla (.int j :: .ref o :: s2) h = some (.long v :: s2, h) := by
    simp only [xla, ho']
    rw [if_pos hcs]
    simp only [hv]
  exact ⟨_, _, e, ⟨rfl, hs2⟩, hh⟩
theorem aaa_ok (hr : aaa ast ah = some (ast', ah')) (hs : gS ast st) (hh : gH ah h) : ∃ st' h', xaa st h = some (st', h') ∧ gS ast' st' ∧ gH ah' h' := by
  unfold aaa at hr
  split at hr <;> try cases hr
  rename_i j o r
  obtain ⟨s1, e1, hs1⟩ := gS_e hs
  subst e1
  obtain ⟨s2, e2, hs2⟩ := gS_e hs1
  subst e2
  split at hr <;> try cases hr
  rename_i xs ho
  obtain ⟨c', ho', hc⟩ := gH_get hh ho
  have e3 := gD_ar hc
  subst e3
  split at hr <;> try cases hr
  rename_i hcs
  split at hr <;> cases hr
  rename_i v hv
  have e : xaa (.int j :: .ref o :: s2) h = some (.ref v :: s2, h) := by
    simp only [xaa, ho']
    rw [if_pos hcs]
    simp only [hv]
  exact ⟨_, _, e, ⟨rfl, hs2⟩, hh⟩
theorem ais_ok {t : Nat} {f : Int32 → Int32} (hf : t = 0 → ∀ x, f x = x) (hr : ais t f ast ah = some (ast', ah')) (hs : gS ast st) (hh : gH ah h) : ∃ st' h', xis t f st h = some (st', h') ∧ gS ast' st' ∧ gH ah' h' := by
  unfold ais at hr
  split at hr <;> try cases hr
  rename_i av j o r
  obtain ⟨v, s0, e0, hv, hs0⟩ := gS_c hs
  subst e0
  obtain ⟨s1, e1, hs1⟩ := gS_e hs0
  subst e1
  obtain ⟨s2, e2, hs2⟩ := gS_e hs1
  subst e2
  split at hr <;> try cases hr
  rename_i u xs ho
  obtain ⟨c', ho', hc⟩ := gH_get hh ho
  obtain ⟨ws, e3, hws⟩ := gD_ai hc
  subst e3
  split at hr <;> try cases hr
  rename_i n hn
  split at hr
  · rename_i hcs
    cases hr
    obtain ⟨x, ex, hx⟩ := avn_ok hv hf hn
    subst ex
    have e : xis t f (.int x :: .int j :: .ref o :: s2) h = some (s2, h.set o (.inr (.inl (u, ws.set j.toNatClampNeg (f x))))) := by
      simp only [xis, ho']
      rw [if_pos ⟨hcs.1, hcs.2.1, hcs.2.2.1, by rw [← gA_len hws]; exact hcs.2.2.2⟩]
    exact ⟨_, _, e, hs2, gA_set hh _ (Or.inr ⟨rfl, gA_set hws _ hx⟩)⟩
  · cases hr
theorem als_ok (hr : als ast ah = some (ast', ah')) (hs : gS ast st) (hh : gH ah h) : ∃ st' h', xls st h = some (st', h') ∧ gS ast' st' ∧ gH ah' h' := by
  unfold als at hr
  split at hr <;> try cases hr
  rename_i x j o r
  obtain ⟨s0, e0, hs0⟩ := gS_e hs
  subst e0
  obtain ⟨s1, e1, hs1⟩ := gS_e hs0
  subst e1
  obtain ⟨s2, e2, hs2⟩ := gS_e hs1
  subst e2
  split at hr <;> try cases hr
  rename_i xs ho
  obtain ⟨c', ho', hc⟩ := gH_get hh ho
  have e3 := gD_al hc
  subst e3
  split at hr
  · rename_i hcs
    cases hr
    have e : xls (.long x :: .int j :: .ref o :: s2) h = some (s2, h.set o (.inr (.inr (.inl (xs.set j.toNatClampNeg x))))) := by
      simp only [xls, ho']
      rw [if_pos hcs]
    exact ⟨_, _, e, hs2, gA_set hh _ (Or.inr rfl)⟩
  · cases hr
theorem aal_ok (hr : aal ast ah = some (ast', ah')) (hs : gS ast st) (hh : gH ah h) : ∃ st' h', xal st h = some (st', h') ∧ gS ast' st' ∧ gH ah' h' := by
  unfold aal at hr
  split at hr <;> try cases hr
  rename_i o r
  obtain ⟨s1, e1, hs1⟩ := gS_e hs
  subst e1
  split at hr
  · rename_i u xs ho
    cases hr
    obtain ⟨c', ho', hc⟩ := gH_get hh ho
    obtain ⟨ws, e3, hws⟩ := gD_ai hc
    subst e3
    have e : xal (.ref o :: s1) h = some (.int (Int32.ofNat ws.length) :: s1, h) := by simp only [xal, ho']
    exact ⟨_, _, e, ⟨by rw [gA_len hws]; rfl, hs1⟩, hh⟩
  · rename_i xs ho
    cases hr
    obtain ⟨c', ho', hc⟩ := gH_get hh ho
    have e3 := gD_al hc
    subst e3
    have e : xal (.ref o :: s1) h = some (.int (Int32.ofNat xs.length) :: s1, h) := by simp only [xal, ho']
    exact ⟨_, _, e, ⟨rfl, hs1⟩, hh⟩
  · rename_i xs ho
    cases hr
    obtain ⟨c', ho', hc⟩ := gH_get hh ho
    have e3 := gD_ar hc
    subst e3
    have e : xal (.ref o :: s1) h = some (.int (Int32.ofNat xs.length) :: s1, h) := by simp only [xal, ho']
    exact ⟨_, _, e, ⟨rfl, hs1⟩, hh⟩
  · cases hr
theorem anw_ok (hr : anw a ft ast ah = some (ast', ah')) (hs : gS ast st) (hh : gH ah h) : ∃ st' h', xnw a ft st h = some (st', h') ∧ gS ast' st' ∧ gH ah' h' := by
  have hlen := gA_len hh
  unfold anw at hr
  split at hr <;> try cases hr
  rename_i tys hty
  split at hr
  · rename_i hl
    cases hr
    have e : xnw a ft st h = some (.ref h.length :: st, h ++ [.inl (a, tys.map defaultValue)]) := by
      simp only [xnw, hty]
      rw [if_pos (by omega)]
    exact ⟨_, _, e, ⟨by rw [hlen]; rfl, hs⟩, gA_app hh ⟨Or.inr ⟨rfl, gA_dflt _⟩, trivial⟩⟩
  · cases hr
theorem ana_ok {t : ArrayType} (hr : ana t ast ah = some (ast', ah')) (hs : gS ast st) (hh : gH ah h) : ∃ st' h', xna t st h = some (st', h') ∧ gS ast' st' ∧ gH ah' h' := by
  have hlen := gA_len hh
  unfold ana at hr
  split at hr <;> try cases hr
  rename_i n r
  obtain ⟨s1, e1, hs1⟩ := gS_e hs
  subst e1
  split at hr
  · rename_i hcs
    have hcs' := hcs
    rw [hlen] at hcs'
    split at hr
    · cases hr
      have e : xna .int (.int n :: s1) h = some (.ref h.length :: s1, h ++ [.inr (.inl (0, List.replicate n.toNatClampNeg 0))]) := by
        simp only [xna]
        rw [if_pos hcs']
      exact ⟨_, _, e, ⟨by rw [hlen]; rfl, hs1⟩, gA_app hh ⟨Or.inr ⟨rfl, (gA_rep (g := gN) (a := .inl 0) (b := 0) rfl _)⟩, trivial⟩⟩
    · cases hr
      have e : xna .byte (.int n :: s1) h = some (.ref h.length :: s1, h ++ [.inr (.inl (1, List.replicate n.toNatClampNeg 0))]) := by
        simp only [xna]
        rw [if_pos hcs']
      exact ⟨_, _, e, ⟨by rw [hlen]; rfl, hs1⟩, gA_app hh ⟨Or.inr ⟨rfl, (gA_rep (g := gN) (a := .inl 0) (b := 0) rfl _)⟩, trivial⟩⟩
    · cases hr
      have e : xna .long (.int n :: s1) h = some (.ref h.length :: s1, h ++ [.inr (.inr (.inl (List.replicate n.toNatClampNeg 0)))]) := by
        simp only [xna]
        rw [if_pos hcs']
      exact ⟨_, _, e, ⟨by rw [hlen]; rfl, hs1⟩, gA_app hh ⟨Or.inr rfl, trivial⟩⟩
    · cases hr
  · cases hr
theorem ama_ok (hr : ama ast ah = some (ast', ah')) (hs : gS ast st) (hh : gH ah h) : ∃ st' h', xma st h = some (st', h') ∧ gS ast' st' ∧ gH ah' h' := by
  have hlen := gA_len hh
  unfold ama at hr
  split at hr <;> try cases hr
  rename_i k n r
  obtain ⟨s1, e1, hs1⟩ := gS_e hs
  subst e1
  obtain ⟨s2, e2, hs2⟩ := gS_e hs1
  subst e2
  split at hr
  · rename_i hcs
    have hcs' := hcs
    rw [hlen] at hcs'
    cases hr
    have e : xma (.int k :: .int n :: s2) h = some (.ref h.length :: s2, h ++ (.inr (.inr (.inr ((List.range n.toNatClampNeg).map (fun i => h.length + 1 + i)))) :: List.replicate n.toNatClampNeg (.inr (.inl (0, List.replicate k.toNatClampNeg 0))))) := by
      simp only [xma]
      rw [if_pos hcs']
    refine ⟨_, _, e, ⟨by rw [hlen]; rfl, hs2⟩, gA_app hh ⟨Or.inr ?_, gA_rep (g := gD) (a := .inr (.inl (0, List.replicate k.toNatClampNeg (.inl 0)))) (b := .inr (.inl (0, List.replicate k.toNatClampNeg 0))) (Or.inr ⟨rfl, (gA_rep (g := gN) (a := .inl 0) (b := 0) rfl _)⟩) _⟩⟩
    rw [hlen]
    exact rfl
  · cases hr
end AHS
theorem ahs_ok {ft : List (List FieldType)} {a : Nat} {tg : List Nat} {ast : List aV} {ah : aH} {st : List Value} {h : xH} {ins : Instr} {ast' : List aV} {ah' : aH} (hr : ahs ft a tg ast ah ins = some (ast', ah')) (hs : gS ast st) (hh : gH ah h) : ∃ st' h', xhs ft a tg st h ins = some (st', h') ∧ gS ast' st' ∧ gH ah' h' := by
  cases ins <;> try cases hr
  case getfield ix => exact agf_ok hr hs hh
  case putfield ix => exact apf_ok hr hs hh
  case iaload => exact aia_ok hr hs hh
  case baload => exact aia_ok hr hs hh
  case laload => exact ala_ok hr hs hh
  case aaload => exact aaa_ok hr hs hh
  case iastore => exact ais_ok (fun _ _ => rfl) hr hs hh
  case bastore => exact ais_ok (fun q => by cases q) hr hs hh
  case lastore => exact als_ok hr hs hh
  case arraylength => exact aal_ok hr hs hh
  case new ix => exact anw_ok hr hs hh
  case newarray t => exact ana_ok hr hs hh
  case multianewarray ix d => exact ama_ok hr hs hh
  case ldc ix =>
    cases tg with
    | nil =>
      have hr : some (Sum.inl (Value.int (Int32.ofNat a)) :: ast, ah) = some (ast', ah') := hr
      cases hr
      exact ⟨.int (Int32.ofNat a) :: st, h, rfl, ⟨rfl, hs⟩, hh⟩
    | cons t tg =>
      have hr : some (Sum.inl (Value.ref a) :: ast, ah) = some (ast', ah') := hr
      cases hr
      exact ⟨.ref a :: st, h, rfl, ⟨rfl, hs⟩, hh⟩
  case ldc_w ix =>
    cases tg with
    | nil =>
      have hr : some (Sum.inl (Value.int (Int32.ofNat a)) :: ast, ah) = some (ast', ah') := hr
      cases hr
      exact ⟨.int (Int32.ofNat a) :: st, h, rfl, ⟨rfl, hs⟩, hh⟩
    | cons t tg => cases hr
  case getstatic ix =>
    match a, hr with
    | 0, hr =>
      have hr : some (Sum.inl (Value.int 1) :: ast, ah) = some (ast', ah') := hr
      cases hr
      exact ⟨.int 1 :: st, h, rfl, ⟨rfl, hs⟩, hh⟩
    | n + 1, hr =>
      have hr : some (Sum.inl (Value.retAddr 0) :: ast, ah) = some (ast', ah') := hr
      cases hr
      exact ⟨.retAddr 0 :: st, h, rfl, ⟨rfl, hs⟩, hh⟩
  case ldc2_w ix => exact ⟨.long (Int64.ofNat a) :: st, h, rfl, ⟨rfl, hs⟩, hh⟩
theorem acw_ok : ∀ {ast : List aV} {st : List Value}, gS ast st → acw ast = xcw st
  | [], [], _ => rfl
  | a :: ast, v :: st, h => by
    have ih := acw_ok h.2
    unfold acw xcw at ih ⊢
    rw [List.map_cons, List.map_cons, List.sum_cons, List.sum_cons, gV_cat h.1, ih]
  | [], _ :: _, h => h.elim
  | _ :: _, [], h => h.elim
theorem arc_ok {ci : Nat} {as : List aV} {vs : List Value} {ah : aH} {h : xH} (g : arc ci as ah = true) (hs : gS as vs) (hh : gH ah h) : xrc ci vs h = true := by
  unfold arc at g
  split at g
  · rename_i o r
    obtain ⟨s1, e1, hs1⟩ := gS_e hs
    subst e1
    split at g
    · rename_i c vs ho
      obtain ⟨c', ho', hc⟩ := gH_get hh ho
      rw [Bool.and_eq_true] at g
      obtain ⟨ws, e2, -⟩ := gD_ob hc (fun q => (of_decide_eq_true g.2) q.1)
      subst e2
      unfold xrc
      simp only [ho']
      exact g.1
    · cases g
  · cases g
theorem aca_ok {P : List xM} {a : Nat} {ast : List aV} {ah : aH} {st : List Value} {h : xH} {as rs : List aV} (hr : aca P a ast ah = some (as, rs)) (hs : gS ast st) (hh : gH ah h) : ∃ as' rs', xca P a st h = some (as', rs') ∧ gS as as' ∧ gS rs rs' := by
  unfold aca at hr
  split at hr
  · cases hr
  · rename_i M hM
    generalize hn : (if M.kind = 0 then M.np else M.np + 1) = n at hr
    split at hr
    · rename_i hcs
      cases hr
      obtain ⟨g1, g2, g3⟩ := hcs
      have e : xca P a st h = some ((st.take n).reverse, st.drop n) := by
        simp only [xca, hM]
        rw [hn]
        rw [if_pos]
        refine ⟨by rw [← gA_len hs]; exact g1, by rw [← acw_ok (gA_drop hs n)]; exact g2, ?_⟩
        rcases g3 with g | g
        · exact Or.inl g
        · exact Or.inr (arc_ok g (gA_rev (gA_take hs n)) hh)
      exact ⟨_, _, e, gA_rev (gA_take hs n), gA_drop hs n⟩
    · cases hr
theorem abt_ok {a : Nat} {ast : List aV} {ah : aH} {st : List Value} {h : xH} {ast' : List aV} {ah' : aH} (hr : abt a ast ah = some (ast', ah')) (hs : gS ast st) (hh : gH ah h) : ∃ st' h', xbt a st h = some (st', h') ∧ gS ast' st' ∧ gH ah' h' := by
  unfold abt at hr
  split at hr
  · split at hr <;> try cases hr
    rename_i o r
    obtain ⟨s1, e1, hs1⟩ := gS_e hs
    subst e1
    split at hr <;> cases hr
    rename_i g
    rw [acw_ok hs1] at g
    have e : xbt 0 (.ref o :: s1) h = some (s1, h) := by simp only [xbt]; rw [if_pos g]
    exact ⟨_, _, e, hs1, hh⟩
  · split at hr <;> try cases hr
    rename_i n dp d sp o r
    obtain ⟨s1, e1, hs1⟩ := gS_e hs
    subst e1
    obtain ⟨s2, e2, hs2⟩ := gS_e hs1
    subst e2
    obtain ⟨s3, e3, hs3⟩ := gS_e hs2
    subst e3
    obtain ⟨s4, e4, hs4⟩ := gS_e hs3
    subst e4
    obtain ⟨s5, e5, hs5⟩ := gS_e hs4
    subst e5
    split at hr <;> try cases hr
    rename_i xs ys ho hd
    obtain ⟨c', ho', hc⟩ := gH_get hh ho
    obtain ⟨ws, e6, hws⟩ := gD_ai hc
    subst e6
    obtain ⟨c2, hd', hc2⟩ := gH_get hh hd
    obtain ⟨ws2, e7, hws2⟩ := gD_ai hc2
    subst e7
    split at hr
    · rename_i g
      cases hr
      rw [acw_ok hs5, gA_len hws, gA_len hws2] at g
      have e : xbt 1 (.int n :: .int dp :: .ref d :: .int sp :: .ref o :: s5) h = some (s5, h.set d (.inr (.inl (0, xcp ws ws2 sp.toNatClampNeg dp.toNatClampNeg n.toNatClampNeg)))) := by
        simp only [xbt, ho', hd']
        rw [if_pos g]
      exact ⟨_, _, e, hs5, gA_set hh _ (Or.inr ⟨rfl, gA_app (gA_take hws2 _) (gA_app (gA_take (gA_drop hws _) _) (gA_drop hws2 _))⟩)⟩
    · cases hr
  · split at hr <;> try cases hr
    rename_i x r
    obtain ⟨s1, e1, hs1⟩ := gS_e hs
    subst e1
    split at hr <;> cases hr
    rename_i g
    rw [acw_ok hs1] at g
    have e : xbt 2 (.int x :: s1) h = some (.int (if 0 ≤ x then x else 0 - x) :: s1, h) := by simp only [xbt]; rw [if_pos g]
    exact ⟨_, _, e, ⟨rfl, hs1⟩, hh⟩
  · split at hr <;> try cases hr
    rename_i x r
    obtain ⟨s1, e1, hs1⟩ := gS_e hs
    subst e1
    split at hr <;> cases hr
    rename_i g
    rw [acw_ok hs1] at g
    have e : xbt 3 (.long x :: s1) h = some (.long (if 0 < x then x else -x) :: s1, h) := by simp only [xbt]; rw [if_pos g]
    exact ⟨_, _, e, ⟨rfl, hs1⟩, hh⟩
  · split at hr <;> try cases hr
    rename_i y x r
    obtain ⟨s1, e1, hs1⟩ := gS_e hs
    subst e1
    obtain ⟨s2, e2, hs2⟩ := gS_e hs1
    subst e2
    split at hr <;> cases hr
    rename_i g
    rw [acw_ok hs2] at g
    have e : xbt 4 (.int y :: .int x :: s2) h = some (.int (if x < y then y else x) :: s2, h) := by simp only [xbt]; rw [if_pos g]
    exact ⟨_, _, e, ⟨rfl, hs2⟩, hh⟩
  · split at hr <;> try cases hr
    rename_i y x r
    obtain ⟨s1, e1, hs1⟩ := gS_e hs
    subst e1
    obtain ⟨s2, e2, hs2⟩ := gS_e hs1
    subst e2
    split at hr <;> cases hr
    rename_i g
    rw [acw_ok hs2] at g
    have e : xbt 5 (.int y :: .int x :: s2) h = some (.int (if y < x then y else x) :: s2, h) := by simp only [xbt]; rw [if_pos g]
    exact ⟨_, _, e, ⟨rfl, hs2⟩, hh⟩
  · cases hr

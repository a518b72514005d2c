/-! ===== what is known after some instructions; boxes of scripts, cut in two till each part is decided ===== -/
def apre (ft : List (List FieldType)) (P : List xM) (call : Nat → List aV → aH → aR) (cd : List xI) : Nat → Nat → aL → List aV → aH → Option (Nat × aL × List aV × aH)
  | 0, i, ls, st, h => some (i, ls, st, h)
  | f + 1, i, ls, st, h => match cd[i]? with
    | none => none
    | some q => match aps i q.2.2.2.1 q.2.2.2.2 ls st q.2.1 with
      | some n => apre ft P call cd f n.1 n.2.1 n.2.2 h
      | none => match ahs ft q.2.2.2.1 q.2.2.2.2 st h q.2.1 with
        | some n => apre ft P call cd f (i + 1) ls n.1 n.2
        | none => match xisc q.2.1 with
          | false => none
          | true => match q.2.2.2.2 with
            | [] => (match aca P q.2.2.2.1 st h with
              | none => none
              | some c => match call q.2.2.2.1 c.1 h with
                | none => none
                | some r => apre ft P call cd f (i + 1) ls (r.1.toList ++ c.2) r.2)
            | _ => (match abt q.2.2.2.1 st h with
              | none => none
              | some n => apre ft P call cd f (i + 1) ls n.1 n.2)
theorem apre_ok {ft : List (List FieldType)} {P : List xM} {acall : Nat → List aV → aH → aR} {call : Nat → List Value → xH → xR} {cd : List xI} (hlow : ∀ k vs h r h', 13 ≤ h.length → call k vs h = some (r, h') → xlow h h')
    (hcall : ∀ (k : Nat) (as : List aV) (ah : aH) (ar : Option aV) (ah' : aH) (vs : List Value) (h : xH), acall k as ah = some (ar, ah') → gS as vs → gH ah h → ∃ r h', call k vs h = some (r, h') ∧ gR ar r ∧ gH ah' h') :
    ∀ (f i : Nat) (als : aL) (ast : List aV) (ah : aH) (i' : Nat) (als' : aL) (ast' : List aV) (ah' : aH), apre ft P acall cd f i als ast ah = some (i', als', ast', ah') → ∀ (ls : xL) (st : List Value) (h : xH), gL als ls → gS ast st → gH ah h → ∃ ls' st' h', gL als' ls' ∧ gS ast' st' ∧ gH ah' h' ∧ (13 ≤ h.length → xlow h h') ∧ ∀ g, xrun ft P call cd (f + g) i ls st h = xrun ft P call cd g i' ls' st' h' := by
  intro f
  induction f with
  | zero =>
    intro i als ast ah i' als' ast' ah' hr ls st h hl hs hh
    cases hr
    exact ⟨ls, st, h, hl, hs, hh, xlow.rf, fun g => by rw [Nat.zero_add]⟩
  | succ f ih =>
    intro i als ast ah i' als' ast' ah' hr ls st h hl hs hh
    unfold apre at hr
    split at hr
    · cases hr
    · rename_i q hq
      split at hr
      · rename_i n hn
        obtain ⟨i2, als2, ast2⟩ := n
        obtain ⟨ls2, st2, e1, g1, g2⟩ := aps_ok hn hl hs
        obtain ⟨ls', st', h', k1, k2, k3, k5, k4⟩ := ih _ _ _ _ _ _ _ _ hr _ _ _ g1 g2 hh
        refine ⟨ls', st', h', k1, k2, k3, k5, fun g => ?_⟩
        rw [Nat.add_right_comm, ← k4 g]
        conv => lhs; unfold xrun
        rw [hq]
        simp only
        rw [e1]
      · split at hr
        · rename_i n hn
          obtain ⟨ast2, ah1⟩ := n
          obtain ⟨st2, h2, e1, g1, g2⟩ := ahs_ok hn hs hh
          obtain ⟨ls', st', h', k1, k2, k3, k5, k4⟩ := ih _ _ _ _ _ _ _ _ hr _ _ _ hl g1 g2
          refine ⟨ls', st', h', k1, k2, k3, fun h0 => (xhs_low h0 e1).tr (k5 (xhs_low h0 e1).1), fun g => ?_⟩
          rw [Nat.add_right_comm, ← k4 g]
          conv => lhs; unfold xrun
          rw [hq]
          simp only
          rw [ahs_ps hn, e1]
        · split at hr
          · cases hr
          · rename_i hisc
            obtain ⟨e1, e2⟩ := xisc_ps hisc ft i q.2.2.2.1 q.2.2.2.2 ls st h
            split at hr
            · rename_i htg
              split at hr
              · cases hr
              · rename_i c hc
                obtain ⟨as, rs⟩ := c
                obtain ⟨as', rs', e3, g1, g2⟩ := aca_ok hc hs hh
                simp only at hr
                split at hr
                · cases hr
                · rename_i r0 hr0
                  obtain ⟨r1, h1, e4, g3, g4⟩ := hcall _ _ _ r0.1 r0.2 _ _ hr0 g1 hh
                  obtain ⟨ls', st', h', k1, k2, k3, k5, k4⟩ := ih _ _ _ _ _ _ _ _ hr _ _ _ hl (gR_app g3 g2) g4
                  refine ⟨ls', st', h', k1, k2, k3, fun h0 => (hlow _ _ _ _ _ h0 e4).tr (k5 (hlow _ _ _ _ _ h0 e4).1), fun g => ?_⟩
                  rw [Nat.add_right_comm, ← k4 g]
                  conv => lhs; unfold xrun
                  rw [hq]
                  simp only
                  rw [e1, e2, hisc]
                  simp only
                  rw [htg]
                  simp only
                  rw [e3]
                  simp only
                  rw [e4]
            · rename_i htg
              split at hr
              · cases hr
              · rename_i n hn
                obtain ⟨ast2, ah1⟩ := n
                obtain ⟨st2, h2, e3, g1, g2⟩ := abt_ok hn hs hh
                obtain ⟨ls', st', h', k1, k2, k3, k5, k4⟩ := ih _ _ _ _ _ _ _ _ hr _ _ _ hl g1 g2
                refine ⟨ls', st', h', k1, k2, k3, fun h0 => (xbt_low h0 e3).tr (k5 (xbt_low h0 e3).1), fun g => ?_⟩
                rw [Nat.add_right_comm, ← k4 g]
                conv => lhs; unfold xrun
                rw [hq]
                simp only
                rw [e1, e2, hisc]
                simp only
                rw [e3]
/-- a box of scripts: of each int what is known -/
abbrev aB : Type := List (Int32 × Int32)
abbrev gB : aB → List Int32 → Prop := gA gI
/-- t: the cuts in preorder: none where the part is decided; (k, l): at place k after l; (k + 10, _): the last bit at place k -/
def atr (chk : aB → Bool) : Nat → List (Option (Nat × Int32)) → aB → Option (List (Option (Nat × Int32)))
  | 0, _, _ => none
  | _ + 1, [], _ => none
  | _ + 1, none :: t, b => if chk b then some t else none
  | f + 1, some (k, l) :: t, b => match b[k]? with
    | some p => if p.1 ≤ l ∧ l < p.2 then (match atr chk f t (b.set k (p.1, l)) with
      | some t' => atr chk f t' (b.set k (l + 1, p.2))
      | none => none) else none
    | none => match b[k - 10]? with
      | some p => if p = aTop then (match atr chk f t (b.set (k - 10) (1, 0)) with
        | some t' => atr chk f t' (b.set (k - 10) (2, 1))
        | none => none) else none
      | none => none
theorem gI_le {p : Int32 × Int32} {x l : Int32} (h : gI p x) (h1 : p.1 ≤ l) (h2 : l < p.2) : gI (p.1, l) x ∨ gI (l + 1, p.2) x := by
  unfold gI at h
  have h2' := Int32.le_of_lt h2
  rw [if_pos (Int32.le_trans h1 h2')] at h
  by_cases hx : x ≤ l
  · exact Or.inl (gI_in ⟨h.1, hx⟩)
  · refine Or.inr (gI_in ⟨?_, h.2⟩)
    have hb := Int32.toInt_lt p.2
    have hb2 := Int32.le_toInt l
    have e : (l + 1).toInt = l.toInt + 1 := by
      rw [Int32.toInt_add]
      rw [Int32.lt_iff_toInt_lt] at h2
      have e1 : (1 : Int32).toInt = 1 := rfl
      rw [e1]
      simp only [Int.bmod]
      omega
    rw [Int32.le_iff_toInt_le] at hx ⊢
    show (l + 1).toInt ≤ x.toInt
    omega
theorem gI_bit (x : Int32) : gI (1, 0) x ∨ gI (2, 1) x := by
  have h := xand_le x (show (0 : Int32) ≤ 1 by decide)
  have h0 : (x &&& 1).toInt = 0 ∨ (x &&& 1).toInt = 1 := by
    have h1 := h.1
    have h2 := h.2
    rw [Int32.le_iff_toInt_le] at h1 h2
    have e0 : (0 : Int32).toInt = 0 := rfl
    have e1 : (1 : Int32).toInt = 1 := rfl
    omega
  rcases h0 with h0 | h0
  · left
    unfold gI
    rw [if_neg (by decide)]
    exact Int32.toInt_inj.mp h0
  · right
    unfold gI
    rw [if_neg (by decide)]
    exact Int32.toInt_inj.mp h0
theorem gB_set {b : aB} {xs : List Int32} (h : gB b xs) {k : Nat} {p : Int32 × Int32} (hk : b[k]? = some p) : ∃ x, xs[k]? = some x ∧ gI p x ∧ ∀ q, gI q x → gB (b.set k q) xs := by
  obtain ⟨x, h1, h2⟩ := gA_get h hk
  refine ⟨x, h1, h2, fun q hq => ?_⟩
  have := gA_set h k (a := q) (b := x) hq
  rw [List.getElem?_eq_some_iff] at h1
  obtain ⟨h3, h4⟩ := h1
  rw [← h4, List.set_getElem_self] at this
  exact this
theorem atr_ok {chk : aB → Bool} : ∀ (f : Nat) (t : List (Option (Nat × Int32))) (b : aB) (t' : List (Option (Nat × Int32))), atr chk f t b = some t' → ∀ xs, gB b xs → ∃ b', chk b' = true ∧ gB b' xs
  | 0, _, _, _, h, _, _ => by cases h
  | _ + 1, [], _, _, h, _, _ => by cases h
  | _ + 1, none :: t, b, t', h, xs, hb => by
    unfold atr at h
    split at h
    · rename_i hc
      exact ⟨b, hc, hb⟩
    · cases h
  | f + 1, some (k, l) :: t, b, t', h, xs, hb => by
    unfold atr at h
    split at h
    · rename_i p hp
      split at h
      · rename_i hc
        obtain ⟨x, h1, h2, h3⟩ := gB_set hb hp
        split at h
        · rename_i t1 ht1
          rcases gI_le h2 hc.1 hc.2 with g | g
          · exact atr_ok f _ _ _ ht1 xs (h3 _ g)
          · exact atr_ok f _ _ _ h xs (h3 _ g)
        · cases h
      · cases h
    · split at h
      · rename_i p hp
        split at h
        · obtain ⟨x, h1, h2, h3⟩ := gB_set hb hp
          split at h
          · rename_i t1 ht1
            rcases gI_bit x with g | g
            · exact atr_ok f _ _ _ ht1 xs (h3 _ g)
            · exact atr_ok f _ _ _ h xs (h3 _ g)
          · cases h
        · cases h
      · cases h
/-- the size of a heap as it is known -/
def acz : aC → Nat
  | .inl o => o.2.length
  | .inr (.inl o) => o.2.length
  | .inr (.inr (.inl o)) => o.length
  | .inr (.inr (.inr o)) => o.length
def asz (ah : aH) : Nat := match ah with
  | [] => 0
  | c :: r => acz c + asz r
def anod (ah : aH) : Bool := ah.all (fun c => match c with
  | .inl o => decide (o.1 ≠ 2000)
  | _ => true)
theorem asz_ok : ∀ {ah : aH} {h : xH}, gH ah h → anod ah = true → asz ah = xsz h
  | [], [], _, _ => rfl
  | a :: as, c :: cs, hg, hn => by
    have hn' := hn
    unfold anod at hn'
    rw [List.all_cons, Bool.and_eq_true] at hn'
    have ih := asz_ok hg.2 hn'.2
    have h1 : acz a = xcz c := by
      rcases hg.1 with h | h
      · subst h
        exact absurd hn'.1 (by decide)
      · match a, c, h with
        | .inl o, .inl p, h => exact gA_len h.2
        | .inr (.inl o), .inr (.inl p), h => exact gA_len h.2
        | .inr (.inr (.inl o)), .inr (.inr (.inl p)), h => exact congrArg List.length (show o = p from h)
        | .inr (.inr (.inr o)), .inr (.inr (.inr p)), h => exact congrArg List.length (show o = p from h)
    show acz a + asz as = xcz c + xsz cs
    rw [h1, ih]
  | [], _ :: _, hg, _ => hg.elim
  | _ :: _, [], hg, _ => hg.elim

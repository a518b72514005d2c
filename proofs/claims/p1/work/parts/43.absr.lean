/-! ===== what is known of a whole run is right ===== -/
def gR : Option aV → Option Value → Prop
  | none, none => True
  | some a, some v => gV a v
  | _, _ => False
theorem ahs_ps {ft : List (List FieldType)} {a : Nat} {tg : List Nat} {ast : List aV} {ah : aH} {ins : Instr} {r : List aV × aH} (hr : ahs ft a tg ast ah ins = some r) (i b : Nat) (tg' : List Nat) (ls : xL) (st : List Value) : xps i b tg' ls st ins = none := by
  cases ins <;> first | rfl | cases hr
theorem xisc_ps {ins : Instr} (h : xisc ins = true) (ft : List (List FieldType)) (i b : Nat) (tg : List Nat) (ls : xL) (st : List Value) (hp : xH) : xps i b tg ls st ins = none ∧ xhs ft b tg st hp ins = none := by
  cases ins <;> first | exact ⟨rfl, rfl⟩ | cases h
theorem aend_ps {ast : List aV} {ah : aH} {ins : Instr} {r : Option aV × aH} (hr : aend ast ah ins = some r) (ft : List (List FieldType)) (i b : Nat) (tg : List Nat) (ls : xL) (st : List Value) (hp : xH) : xps i b tg ls st ins = none ∧ xhs ft b tg st hp ins = none := by
  cases ins <;> first | exact ⟨rfl, rfl⟩ | cases hr
theorem aend_ok {ast : List aV} {ah : aH} {ins : Instr} {ar : Option aV} {ah' : aH} {st : List Value} {h : xH} (hr : aend ast ah ins = some (ar, ah')) (hs : gS ast st) (hh : gH ah h) : ∃ r h', xend st h ins = some (r, h') ∧ gR ar r ∧ gH ah' h' := by
  unfold aend at hr
  split at hr
  · split at hr <;> cases hr
    · rename_i v
      obtain ⟨s1, e1, hs1⟩ := gS_e hs
      subst e1
      cases s1 with
      | nil => exact ⟨some (.int v), h, rfl, rfl, hh⟩
      | cons v st => exact hs1.elim
    · obtain ⟨v, s1, e1, hv, hs1⟩ := gS_c hs
      subst e1
      obtain ⟨x, rfl, hx⟩ := hv
      cases s1 with
      | nil => exact ⟨some (.int x), h, rfl, ⟨x, rfl, hx⟩, hh⟩
      | cons v st => exact hs1.elim
  · split at hr <;> cases hr
    rename_i v
    obtain ⟨s1, e1, hs1⟩ := gS_e hs
    subst e1
    cases s1 with
    | nil => exact ⟨some (.long v), h, rfl, rfl, hh⟩
    | cons v st => exact hs1.elim
  · split at hr <;> cases hr
    cases st with
    | nil => exact ⟨none, h, rfl, trivial, hh⟩
    | cons v st => exact hs.elim
  · cases hr
theorem gR_app {ar : Option aV} {r : Option Value} {rs : List aV} {rest : List Value} (h : gR ar r) (hs : gS rs rest) : gS (ar.toList ++ rs) (r.toList ++ rest) := by
  cases ar <;> cases r <;> first | exact h.elim | exact hs | exact ⟨h, hs⟩
theorem arun_ok {ft : List (List FieldType)} {P : List xM} {acall : Nat → List aV → aH → aR} {call : Nat → List Value → xH → xR} {cd : List xI}
    (hcall : ∀ (k : Nat) (as : List aV) (ah : aH) (ar : Option aV) (ah' : aH) (vs : List Value) (h : xH), acall k as ah = some (ar, ah') → gS as vs → gH ah h → ∃ r h', call k vs h = some (r, h') ∧ gR ar r ∧ gH ah' h') :
    ∀ (f i : Nat) (als : aL) (ast : List aV) (ah : aH) (ar : Option aV) (ah' : aH), arun ft P acall cd f i als ast ah = some (ar, ah') → ∀ (ls : xL) (st : List Value) (h : xH), gL als ls → gS ast st → gH ah h → ∃ r h', xrun ft P call cd f i ls st h = some (r, h') ∧ gR ar r ∧ gH ah' h' := by
  intro f
  induction f with
  | zero => intro i als ast ah ar ah' hr; cases hr
  | succ f ih =>
    intro i als ast ah ar ah' hr ls st h hl hs hh
    unfold arun at hr
    unfold xrun
    split at hr
    · cases hr
    · rename_i q hq
      rw [hq]
      simp only
      split at hr
      · rename_i n hn
        obtain ⟨i', als', ast'⟩ := n
        obtain ⟨ls', st', e1, g1, g2⟩ := aps_ok hn hl hs
        rw [e1]
        exact ih _ _ _ _ _ _ hr _ _ _ g1 g2 hh
      · split at hr
        · rename_i n hn
          obtain ⟨ast', ah1⟩ := n
          obtain ⟨st', h', e1, g1, g2⟩ := ahs_ok hn hs hh
          rw [ahs_ps hn, e1]
          exact ih _ _ _ _ _ _ hr _ _ _ hl g1 g2
        · split at hr
          · rename_i hisc
            obtain ⟨e1, e2⟩ := aend_ps hr ft i q.2.2.2.1 q.2.2.2.2 ls st h
            rw [e1, e2, hisc]
            exact aend_ok hr hs hh
          · rename_i hisc
            obtain ⟨e1, e2⟩ := xisc_ps hisc ft i q.2.2.2.1 q.2.2.2.2 ls st h
            rw [e1, e2, hisc]
            simp only
            split at hr
            · rename_i htg
              rw [htg]
              simp only
              split at hr
              · cases hr
              · rename_i c hc
                obtain ⟨as, rs⟩ := c
                obtain ⟨as', rs', e3, g1, g2⟩ := aca_ok hc hs hh
                rw [e3]
                simp only at hr ⊢
                split at hr
                · cases hr
                · rename_i r0 hr0
                  obtain ⟨r1, h1, e4, g3, g4⟩ := hcall _ _ _ r0.1 r0.2 _ _ hr0 g1 hh
                  rw [e4]
                  exact ih _ _ _ _ _ _ hr _ _ _ hl (gR_app g3 g2) g4
            · rename_i htg
              split at hr
              · cases hr
              · rename_i n hn
                obtain ⟨ast', ah1⟩ := n
                obtain ⟨st', h', e3, g1, g2⟩ := abt_ok hn hs hh
                split
                · rename_i e
                  exact absurd e htg
                · rw [e3]
                  exact ih _ _ _ _ _ _ hr _ _ _ hl g1 g2
theorem aes_ok : ∀ {as : List aV} {vs : List Value}, gS as vs → gL (aes as) (xes vs)
  | [], [], _ => trivial
  | a :: as, v :: vs, h => by
    unfold aes xes
    rw [gV_cat h.1]
    split
    · exact ⟨h.1, trivial, aes_ok h.2⟩
    · exact ⟨h.1, aes_ok h.2⟩
  | [], _ :: _, h => h.elim
  | _ :: _, [], h => h.elim
theorem aent_ok {n : Nat} {as : List aV} {vs : List Value} (h : gS as vs) : gL (aent n as) (xent n vs) := by
  unfold aent xent
  have := aes_ok h
  rw [gA_len this]
  exact gA_app this (gA_rep trivial _)
theorem arok_ok {t : Option FieldType} {ar : Option aV} {r : Option Value} (h : gR ar r) (hk : arok t ar = true) : xrok t r = true := by
  match ar, r, h with
  | none, none, _ => exact hk
  | some (.inl w), some v, h =>
    rw [show v = w from h]
    exact hk
  | some (.inr p), some v, h =>
    obtain ⟨x, rfl, -⟩ := h
    have hk : t = some .int := of_decide_eq_true hk
    subst hk
    rfl
theorem aex_ok {ft : List (List FieldType)} {P : List xM} {F : Nat} : ∀ (d k : Nat) (as : List aV) (ah : aH) (ar : Option aV) (ah' : aH) (vs : List Value) (h : xH), aex ft P F d k as ah = some (ar, ah') → gS as vs → gH ah h → ∃ r h', xex ft P F d k vs h = some (r, h') ∧ gR ar r ∧ gH ah' h'
  | 0, k, as, ah, ar, ah', vs, h, hr, _, _ => by cases hr
  | d + 1, k, as, ah, ar, ah', vs, h, hr, hs, hh => by
    unfold aex at hr
    unfold xex
    split at hr
    · cases hr
    · rename_i M hM
      rw [hM]
      simp only
      split at hr
      · rename_i hl
        rw [gA_len (aes_ok hs)] at hl
        rw [if_pos hl]
        split at hr
        · cases hr
        · rename_i r0 hr0
          split at hr
          · rename_i hok
            cases hr
            obtain ⟨r, h', e, g1, g2⟩ := arun_ok (fun k as ah ar ah' vs h q1 q2 q3 => aex_ok d k as ah ar ah' vs h q1 q2 q3) _ _ _ _ _ _ _ hr0 _ _ _ (aent_ok hs) (show gS [] [] from trivial) hh
            rw [e]
            simp only
            rw [if_pos (arok_ok g1 hok)]
            exact ⟨r, h', rfl, g1, g2⟩
          · cases hr
      · cases hr

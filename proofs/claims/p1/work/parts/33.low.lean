/-! ===== the script and the texts are never written ===== -/
def xlow (h h' : xH) : Prop := 13 ≤ h'.length ∧ ∀ k, k < 13 → h'[k]? = h[k]?
theorem xlow.rf {h : xH} (h0 : 13 ≤ h.length) : xlow h h := ⟨h0, fun _ _ => rfl⟩
theorem xlow.tr {h h1 h2 : xH} (a : xlow h h1) (b : xlow h1 h2) : xlow h h2 := ⟨b.1, fun k hk => (b.2 k hk).trans (a.2 k hk)⟩
theorem xlow.st {h : xH} (h0 : 13 ≤ h.length) {o : Nat} {c : xC} (ho : 13 ≤ o) : xlow h (h.set o c) := ⟨by rw [List.length_set]; exact h0, fun k hk => List.getElem?_set_ne (by omega)⟩
theorem xlow.ap {h g : xH} (h0 : 13 ≤ h.length) : xlow h (h ++ g) := ⟨by rw [List.length_append]; omega, fun k hk => List.getElem?_append_left (by omega)⟩
theorem xhs_low {ft : List (List FieldType)} {h h' : xH} {st st' : List Value} {a : Nat} {tg : List Nat} {ins : Instr} (h0 : 13 ≤ h.length) (hr : xhs ft a tg st h ins = some (st', h')) : xlow h h' := by
  unfold xhs at hr
  split at hr
  · unfold xgf at hr
    split at hr <;> try cases hr
    split at hr <;> try cases hr
    split at hr <;> try cases hr
    split at hr <;> cases hr
    exact xlow.rf h0
  · unfold xpf at hr
    split at hr <;> try cases hr
    split at hr <;> try cases hr
    split at hr <;> cases hr
    rename_i hc
    exact xlow.st h0 hc.2.1
  · unfold xia at hr
    split at hr <;> try cases hr
    split at hr <;> try cases hr
    split at hr <;> try cases hr
    split at hr <;> cases hr
    exact xlow.rf h0
  · unfold xia at hr
    split at hr <;> try cases hr
    split at hr <;> try cases hr
    split at hr <;> try cases hr
    split at hr <;> cases hr
    exact xlow.rf h0
  · unfold xla at hr
    split at hr <;> try cases hr
    split at hr <;> try cases hr
    split at hr <;> try cases hr
    split at hr <;> cases hr
    exact xlow.rf h0
  · unfold xaa at hr
    split at hr <;> try cases hr
    split at hr <;> try cases hr
    split at hr <;> try cases hr
    split at hr <;> cases hr
    exact xlow.rf h0
  · unfold xis at hr
    split at hr <;> try cases hr
    split at hr <;> try cases hr
    split at hr <;> cases hr
    rename_i hc
    exact xlow.st h0 hc.2.1
  · unfold xis at hr
    split at hr <;> try cases hr
    split at hr <;> try cases hr
    split at hr <;> cases hr
    rename_i hc
    exact xlow.st h0 hc.2.1
  · unfold xls at hr
    split at hr <;> try cases hr
    split at hr <;> try cases hr
    split at hr <;> cases hr
    rename_i hc
    exact xlow.st h0 hc.1
  · unfold xal at hr
    split at hr <;> try cases hr
    split at hr <;> cases hr <;> exact xlow.rf h0
  · unfold xnw at hr
    split at hr <;> try cases hr
    split at hr <;> cases hr
    exact xlow.ap h0
  · unfold xna at hr
    split at hr <;> try cases hr
    split at hr <;> try cases hr
    split at hr <;> cases hr <;> exact xlow.ap h0
  · unfold xma at hr
    split at hr <;> try cases hr
    split at hr <;> cases hr
    exact xlow.ap h0
  · unfold xci at hr
    split at hr <;> cases hr <;> exact xlow.rf h0
  · split at hr <;> cases hr <;> exact xlow.rf h0
  · unfold xgs at hr
    split at hr <;> cases hr <;> exact xlow.rf h0
  · cases hr
    exact xlow.rf h0
  · cases hr
theorem xbt_low {h h' : xH} {st st' : List Value} {a : Nat} (h0 : 13 ≤ h.length) (hr : xbt a st h = some (st', h')) : xlow h h' := by
  unfold xbt at hr
  split at hr
  · split at hr <;> try cases hr
    split at hr <;> cases hr
    exact xlow.rf h0
  · split at hr <;> try cases hr
    split at hr <;> try cases hr
    split at hr <;> cases hr
    rename_i hcs
    exact xlow.st h0 hcs.2.1
  · split at hr <;> try cases hr
    split at hr <;> cases hr
    exact xlow.rf h0
  · split at hr <;> try cases hr
    split at hr <;> cases hr
    exact xlow.rf h0
  · split at hr <;> try cases hr
    split at hr <;> cases hr
    exact xlow.rf h0
  · split at hr <;> try cases hr
    split at hr <;> cases hr
    exact xlow.rf h0
  · cases hr
theorem xend_same {h h' : xH} {st : List Value} {ins : Instr} {r : Option Value} (hr : xend st h ins = some (r, h')) : h' = h := by
  unfold xend at hr
  split at hr
  · split at hr <;> cases hr
    rfl
  · split at hr <;> cases hr
    rfl
  · split at hr <;> cases hr
    rfl
  · cases hr
theorem xrun_low {ft : List (List FieldType)} {P : List xM} {call : Nat → List Value → xH → xR} {cd : List xI} (hcall : ∀ k vs h r h', 13 ≤ h.length → call k vs h = some (r, h') → xlow h h') : ∀ (f i : Nat) (ls : xL) (st : List Value) (h : xH) (r : Option Value) (h' : xH), 13 ≤ h.length → xrun ft P call cd f i ls st h = some (r, h') → xlow h h' := by
  intro f
  induction f with
  | zero => intro i ls st h r h' h0 hr; cases hr
  | succ f ih =>
    intro i ls st h r h' h0 hr
    unfold xrun at hr
    split at hr
    · cases hr
    · split at hr
      · exact ih _ _ _ _ _ _ h0 hr
      · split at hr
        · rename_i n hn
          have := xhs_low (st' := n.1) (h' := n.2) h0 hn
          exact this.tr (ih _ _ _ _ _ _ this.1 hr)
        · split at hr
          · rw [xend_same hr]
            exact xlow.rf h0
          · split at hr
            · split at hr
              · cases hr
              · split at hr
                · cases hr
                · rename_i r0 hr0
                  have := hcall _ _ _ r0.1 r0.2 h0 hr0
                  exact this.tr (ih _ _ _ _ _ _ this.1 hr)
            · split at hr
              · cases hr
              · rename_i n hn
                have := xbt_low (st' := n.1) (h' := n.2) h0 hn
                exact this.tr (ih _ _ _ _ _ _ this.1 hr)
theorem xex_low {ft : List (List FieldType)} {P : List xM} {F : Nat} : ∀ (d k : Nat) (vs : List Value) (h : xH) (r : Option Value) (h' : xH), 13 ≤ h.length → xex ft P F d k vs h = some (r, h') → xlow h h'
  | 0, k, vs, h, r, h', h0, hr => by cases hr
  | d + 1, k, vs, h, r, h', h0, hr => by
    unfold xex at hr
    split at hr
    · cases hr
    · split at hr
      · split at hr
        · cases hr
        · rename_i r0 hr0
          split at hr <;> cases hr
          exact xrun_low (fun k vs h r h' q1 q2 => xex_low d k vs h r h' q1 q2) _ _ _ _ _ r h' h0 hr0
      · cases hr

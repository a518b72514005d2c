/-! ===== what is known stays right: instructions that ask neither heap nor tables ===== -/
set_option maxHeartbeats 4000000 in
theorem aps_ok {i a : Nat} {tg : List Nat} {als : aL} {ast : List aV} {ls : xL} {st : List Value} {ins : Instr} {i' : Nat} {als' : aL} {ast' : List aV} (h : aps i a tg als ast ins = some (i', als', ast')) (hl : gL als ls) (hs : gS ast st) : ∃ ls' st', xps i a tg ls st ins = some (i', ls', st') ∧ gL als' ls' ∧ gS ast' st' := by
  cases ins
  case iconst z =>
    simp only [aps, Option.some.injEq, Prod.mk.injEq] at h
    obtain ⟨rfl, rfl, rfl⟩ := h
    exact ⟨ls, _, rfl, hl, rfl, hs⟩
  case bipush z =>
    simp only [aps, Option.some.injEq, Prod.mk.injEq] at h
    obtain ⟨rfl, rfl, rfl⟩ := h
    exact ⟨ls, _, rfl, hl, rfl, hs⟩
  case sipush z =>
    simp only [aps, Option.some.injEq, Prod.mk.injEq] at h
    obtain ⟨rfl, rfl, rfl⟩ := h
    exact ⟨ls, _, rfl, hl, rfl, hs⟩
  case lconst z =>
    simp only [aps, Option.some.injEq, Prod.mk.injEq] at h
    obtain ⟨rfl, rfl, rfl⟩ := h
    exact ⟨ls, _, rfl, hl, rfl, hs⟩
  case iload k =>
    simp only [aps, aldi] at h
    split at h
    · rename_i x hx1
      simp only [Option.some.injEq, Prod.mk.injEq] at h
      obtain ⟨rfl, rfl, rfl⟩ := h
      obtain ⟨v, hv, rfl⟩ := gL_get hl hx1
      exact ⟨ls, .int x :: st, by simp only [xps, xldi, hv], hl, rfl, hs⟩
    · rename_i q hx1
      simp only [Option.some.injEq, Prod.mk.injEq] at h
      obtain ⟨rfl, rfl, rfl⟩ := h
      obtain ⟨v, hv, x, rfl, hx2⟩ := gL_get hl hx1
      exact ⟨ls, .int x :: st, by simp only [xps, xldi, hv], hl, ⟨x, rfl, hx2⟩, hs⟩
    · cases h
  case iload_n k =>
    simp only [aps, aldi] at h
    split at h
    · rename_i x hx1
      simp only [Option.some.injEq, Prod.mk.injEq] at h
      obtain ⟨rfl, rfl, rfl⟩ := h
      obtain ⟨v, hv, rfl⟩ := gL_get hl hx1
      exact ⟨ls, .int x :: st, by simp only [xps, xldi, hv], hl, rfl, hs⟩
    · rename_i q hx1
      simp only [Option.some.injEq, Prod.mk.injEq] at h
      obtain ⟨rfl, rfl, rfl⟩ := h
      obtain ⟨v, hv, x, rfl, hx2⟩ := gL_get hl hx1
      exact ⟨ls, .int x :: st, by simp only [xps, xldi, hv], hl, ⟨x, rfl, hx2⟩, hs⟩
    · cases h
  case lload k =>
    simp only [aps, aldl] at h
    split at h
    · rename_i x hx1
      simp only [Option.some.injEq, Prod.mk.injEq] at h
      obtain ⟨rfl, rfl, rfl⟩ := h
      obtain ⟨v, hv, rfl⟩ := gL_get hl hx1
      exact ⟨ls, .long x :: st, by simp only [xps, xldl, hv], hl, rfl, hs⟩
    · cases h
  case lload_n k =>
    simp only [aps, aldl] at h
    split at h
    · rename_i x hx1
      simp only [Option.some.injEq, Prod.mk.injEq] at h
      obtain ⟨rfl, rfl, rfl⟩ := h
      obtain ⟨v, hv, rfl⟩ := gL_get hl hx1
      exact ⟨ls, .long x :: st, by simp only [xps, xldl, hv], hl, rfl, hs⟩
    · cases h
  case aload k =>
    simp only [aps, alda] at h
    split at h
    · rename_i x hx1
      simp only [Option.some.injEq, Prod.mk.injEq] at h
      obtain ⟨rfl, rfl, rfl⟩ := h
      obtain ⟨v, hv, rfl⟩ := gL_get hl hx1
      exact ⟨ls, .ref x :: st, by simp only [xps, xlda, hv], hl, rfl, hs⟩
    · cases h
  case aload_n k =>
    simp only [aps, alda] at h
    split at h
    · rename_i x hx1
      simp only [Option.some.injEq, Prod.mk.injEq] at h
      obtain ⟨rfl, rfl, rfl⟩ := h
      obtain ⟨v, hv, rfl⟩ := gL_get hl hx1
      exact ⟨ls, .ref x :: st, by simp only [xps, xlda, hv], hl, rfl, hs⟩
    · cases h
  case istore k =>
    have hll := gA_len hl
    simp only [aps, asti] at h
    split at h
    · rename_i x r
      split at h
      · rename_i hlt
        simp only [Option.some.injEq, Prod.mk.injEq] at h
        obtain ⟨rfl, rfl, rfl⟩ := h
        cases st with
        | nil => exact hs.elim
        | cons v st =>
          obtain ⟨hv, hs⟩ := hs
          have hv : v = _ := hv
          subst hv
          exact ⟨xset1 ls k (.int x), st, by simp only [xps, xsti]; rw [if_pos (by omega)], gL_set1 hl _ rfl, hs⟩
      · cases h
    · rename_i q r
      split at h
      · rename_i hlt
        simp only [Option.some.injEq, Prod.mk.injEq] at h
        obtain ⟨rfl, rfl, rfl⟩ := h
        cases st with
        | nil => exact hs.elim
        | cons v st =>
          obtain ⟨hv, hs⟩ := hs
          obtain ⟨x, rfl, hx2⟩ := hv
          exact ⟨xset1 ls k (.int x), st, by simp only [xps, xsti]; rw [if_pos (by omega)], gL_set1 hl _ ⟨x, rfl, hx2⟩, hs⟩
      · cases h
    · cases h
  case istore_n k =>
    have hll := gA_len hl
    simp only [aps, asti] at h
    split at h
    · rename_i x r
      split at h
      · rename_i hlt
        simp only [Option.some.injEq, Prod.mk.injEq] at h
        obtain ⟨rfl, rfl, rfl⟩ := h
        cases st with
        | nil => exact hs.elim
        | cons v st =>
          obtain ⟨hv, hs⟩ := hs
          have hv : v = _ := hv
          subst hv
          exact ⟨xset1 ls k (.int x), st, by simp only [xps, xsti]; rw [if_pos (by omega)], gL_set1 hl _ rfl, hs⟩
      · cases h
    · rename_i q r
      split at h
      · rename_i hlt
        simp only [Option.some.injEq, Prod.mk.injEq] at h
        obtain ⟨rfl, rfl, rfl⟩ := h
        cases st with
        | nil => exact hs.elim
        | cons v st =>
          obtain ⟨hv, hs⟩ := hs
          obtain ⟨x, rfl, hx2⟩ := hv
          exact ⟨xset1 ls k (.int x), st, by simp only [xps, xsti]; rw [if_pos (by omega)], gL_set1 hl _ ⟨x, rfl, hx2⟩, hs⟩
      · cases h
    · cases h
  case lstore k =>
    have hll := gA_len hl
    simp only [aps, astl] at h
    split at h
    · rename_i x r
      split at h
      · rename_i hlt
        simp only [Option.some.injEq, Prod.mk.injEq] at h
        obtain ⟨rfl, rfl, rfl⟩ := h
        cases st with
        | nil => exact hs.elim
        | cons v st =>
          obtain ⟨hv, hs⟩ := hs
          have hv : v = _ := hv
          subst hv
          exact ⟨xset2 ls k (.long x), st, by simp only [xps, xstl]; rw [if_pos (by omega)], gL_set2 hl _ rfl, hs⟩
      · cases h
    · cases h
  case lstore_n k =>
    have hll := gA_len hl
    simp only [aps, astl] at h
    split at h
    · rename_i x r
      split at h
      · rename_i hlt
        simp only [Option.some.injEq, Prod.mk.injEq] at h
        obtain ⟨rfl, rfl, rfl⟩ := h
        cases st with
        | nil => exact hs.elim
        | cons v st =>
          obtain ⟨hv, hs⟩ := hs
          have hv : v = _ := hv
          subst hv
          exact ⟨xset2 ls k (.long x), st, by simp only [xps, xstl]; rw [if_pos (by omega)], gL_set2 hl _ rfl, hs⟩
      · cases h
    · cases h
  case astore k =>
    have hll := gA_len hl
    simp only [aps, asta] at h
    split at h
    · rename_i x r
      split at h
      · rename_i hlt
        simp only [Option.some.injEq, Prod.mk.injEq] at h
        obtain ⟨rfl, rfl, rfl⟩ := h
        cases st with
        | nil => exact hs.elim
        | cons v st =>
          obtain ⟨hv, hs⟩ := hs
          have hv : v = _ := hv
          subst hv
          exact ⟨xset1 ls k (.ref x), st, by simp only [xps, xsta]; rw [if_pos (by omega)], gL_set1 hl _ rfl, hs⟩
      · cases h
    · cases h
  case astore_n k =>
    have hll := gA_len hl
    simp only [aps, asta] at h
    split at h
    · rename_i x r
      split at h
      · rename_i hlt
        simp only [Option.some.injEq, Prod.mk.injEq] at h
        obtain ⟨rfl, rfl, rfl⟩ := h
        cases st with
        | nil => exact hs.elim
        | cons v st =>
          obtain ⟨hv, hs⟩ := hs
          have hv : v = _ := hv
          subst hv
          exact ⟨xset1 ls k (.ref x), st, by simp only [xps, xsta]; rw [if_pos (by omega)], gL_set1 hl _ rfl, hs⟩
      · cases h
    · cases h
  case iinc k z =>
    have hll := gA_len hl
    simp only [aps, ainc] at h
    split at h
    · rename_i x hx1
      split at h
      · rename_i hlt
        simp only [Option.some.injEq, Prod.mk.injEq] at h
        obtain ⟨rfl, rfl, rfl⟩ := h
        obtain ⟨v, hv, rfl⟩ := gL_get hl hx1
        exact ⟨xset1 ls k (.int (x + Int32.ofInt z)), st, by simp only [xps, xinc, hv]; rw [if_pos (by omega)], gL_set1 hl _ rfl, hs⟩
      · cases h
    · cases h
  case iadd =>
    simp only [aps, abi] at h
    split at h
    · rename_i y x r
      simp only [Option.some.injEq, Prod.mk.injEq] at h
      obtain ⟨rfl, rfl, rfl⟩ := h
      cases st with
      | nil => exact hs.elim
      | cons v st =>
      obtain ⟨hv, hs⟩ := hs
      cases st with
      | nil => exact hs.elim
      | cons w st =>
      obtain ⟨hw, hs⟩ := hs
      have hv : v = _ := hv
      subst hv
      have hw : w = _ := hw
      subst hw
      exact ⟨ls, _, rfl, hl, rfl, hs⟩
    · simp only [Option.some.injEq, Prod.mk.injEq] at h
      obtain ⟨rfl, rfl, rfl⟩ := h
      cases st with
      | nil => exact hs.elim
      | cons v st =>
      obtain ⟨hv, hs⟩ := hs
      cases st with
      | nil => exact hs.elim
      | cons w st =>
      obtain ⟨hw, hs⟩ := hs
      have hv : v = _ := hv
      subst hv
      obtain ⟨x, rfl, hx⟩ := hw
      exact ⟨ls, _, rfl, hl, gTop _, hs⟩
    · simp only [Option.some.injEq, Prod.mk.injEq] at h
      obtain ⟨rfl, rfl, rfl⟩ := h
      cases st with
      | nil => exact hs.elim
      | cons v st =>
      obtain ⟨hv, hs⟩ := hs
      cases st with
      | nil => exact hs.elim
      | cons w st =>
      obtain ⟨hw, hs⟩ := hs
      obtain ⟨y, rfl, hy⟩ := hv
      have hw : w = _ := hw
      subst hw
      exact ⟨ls, _, rfl, hl, gTop _, hs⟩
    · simp only [Option.some.injEq, Prod.mk.injEq] at h
      obtain ⟨rfl, rfl, rfl⟩ := h
      cases st with
      | nil => exact hs.elim
      | cons v st =>
      obtain ⟨hv, hs⟩ := hs
      cases st with
      | nil => exact hs.elim
      | cons w st =>
      obtain ⟨hw, hs⟩ := hs
      obtain ⟨y, rfl, hy⟩ := hv
      obtain ⟨x, rfl, hx⟩ := hw
      exact ⟨ls, _, rfl, hl, gTop _, hs⟩
    · cases h
  case isub =>
    simp only [aps, abi] at h
    split at h
    · rename_i y x r
      simp only [Option.some.injEq, Prod.mk.injEq] at h
      obtain ⟨rfl, rfl, rfl⟩ := h
      cases st with
      | nil => exact hs.elim
      | cons v st =>
      obtain ⟨hv, hs⟩ := hs
      cases st with
      | nil => exact hs.elim
      | cons w st =>
      obtain ⟨hw, hs⟩ := hs
      have hv : v = _ := hv
      subst hv
      have hw : w = _ := hw
      subst hw
      exact ⟨ls, _, rfl, hl, rfl, hs⟩
    · simp only [Option.some.injEq, Prod.mk.injEq] at h
      obtain ⟨rfl, rfl, rfl⟩ := h
      cases st with
      | nil => exact hs.elim
      | cons v st =>
      obtain ⟨hv, hs⟩ := hs
      cases st with
      | nil => exact hs.elim
      | cons w st =>
      obtain ⟨hw, hs⟩ := hs
      have hv : v = _ := hv
      subst hv
      obtain ⟨x, rfl, hx⟩ := hw
      exact ⟨ls, _, rfl, hl, gTop _, hs⟩
    · simp only [Option.some.injEq, Prod.mk.injEq] at h
      obtain ⟨rfl, rfl, rfl⟩ := h
      cases st with
      | nil => exact hs.elim
      | cons v st =>
      obtain ⟨hv, hs⟩ := hs
      cases st with
      | nil => exact hs.elim
      | cons w st =>
      obtain ⟨hw, hs⟩ := hs
      obtain ⟨y, rfl, hy⟩ := hv
      have hw : w = _ := hw
      subst hw
      exact ⟨ls, _, rfl, hl, gTop _, hs⟩
    · simp only [Option.some.injEq, Prod.mk.injEq] at h
      obtain ⟨rfl, rfl, rfl⟩ := h
      cases st with
      | nil => exact hs.elim
      | cons v st =>
      obtain ⟨hv, hs⟩ := hs
      cases st with
      | nil => exact hs.elim
      | cons w st =>
      obtain ⟨hw, hs⟩ := hs
      obtain ⟨y, rfl, hy⟩ := hv
      obtain ⟨x, rfl, hx⟩ := hw
      exact ⟨ls, _, rfl, hl, gTop _, hs⟩
    · cases h
  case ior =>
    simp only [aps, abi] at h
    split at h
    · rename_i y x r
      simp only [Option.some.injEq, Prod.mk.injEq] at h
      obtain ⟨rfl, rfl, rfl⟩ := h
      cases st with
      | nil => exact hs.elim
      | cons v st =>
      obtain ⟨hv, hs⟩ := hs
      cases st with
      | nil => exact hs.elim
      | cons w st =>
      obtain ⟨hw, hs⟩ := hs
      have hv : v = _ := hv
      subst hv
      have hw : w = _ := hw
      subst hw
      exact ⟨ls, _, rfl, hl, rfl, hs⟩
    · simp only [Option.some.injEq, Prod.mk.injEq] at h
      obtain ⟨rfl, rfl, rfl⟩ := h
      cases st with
      | nil => exact hs.elim
      | cons v st =>
      obtain ⟨hv, hs⟩ := hs
      cases st with
      | nil => exact hs.elim
      | cons w st =>
      obtain ⟨hw, hs⟩ := hs
      have hv : v = _ := hv
      subst hv
      obtain ⟨x, rfl, hx⟩ := hw
      exact ⟨ls, _, rfl, hl, gTop _, hs⟩
    · simp only [Option.some.injEq, Prod.mk.injEq] at h
      obtain ⟨rfl, rfl, rfl⟩ := h
      cases st with
      | nil => exact hs.elim
      | cons v st =>
      obtain ⟨hv, hs⟩ := hs
      cases st with
      | nil => exact hs.elim
      | cons w st =>
      obtain ⟨hw, hs⟩ := hs
      obtain ⟨y, rfl, hy⟩ := hv
      have hw : w = _ := hw
      subst hw
      exact ⟨ls, _, rfl, hl, gTop _, hs⟩
    · simp only [Option.some.injEq, Prod.mk.injEq] at h
      obtain ⟨rfl, rfl, rfl⟩ := h
      cases st with
      | nil => exact hs.elim
      | cons v st =>
      obtain ⟨hv, hs⟩ := hs
      cases st with
      | nil => exact hs.elim
      | cons w st =>
      obtain ⟨hw, hs⟩ := hs
      obtain ⟨y, rfl, hy⟩ := hv
      obtain ⟨x, rfl, hx⟩ := hw
      exact ⟨ls, _, rfl, hl, gTop _, hs⟩
    · cases h
  case ixor =>
    simp only [aps, abi] at h
    split at h
    · rename_i y x r
      simp only [Option.some.injEq, Prod.mk.injEq] at h
      obtain ⟨rfl, rfl, rfl⟩ := h
      cases st with
      | nil => exact hs.elim
      | cons v st =>
      obtain ⟨hv, hs⟩ := hs
      cases st with
      | nil => exact hs.elim
      | cons w st =>
      obtain ⟨hw, hs⟩ := hs
      have hv : v = _ := hv
      subst hv
      have hw : w = _ := hw
      subst hw
      exact ⟨ls, _, rfl, hl, rfl, hs⟩
    · simp only [Option.some.injEq, Prod.mk.injEq] at h
      obtain ⟨rfl, rfl, rfl⟩ := h
      cases st with
      | nil => exact hs.elim
      | cons v st =>
      obtain ⟨hv, hs⟩ := hs
      cases st with
      | nil => exact hs.elim
      | cons w st =>
      obtain ⟨hw, hs⟩ := hs
      have hv : v = _ := hv
      subst hv
      obtain ⟨x, rfl, hx⟩ := hw
      exact ⟨ls, _, rfl, hl, gTop _, hs⟩
    · simp only [Option.some.injEq, Prod.mk.injEq] at h
      obtain ⟨rfl, rfl, rfl⟩ := h
      cases st with
      | nil => exact hs.elim
      | cons v st =>
      obtain ⟨hv, hs⟩ := hs
      cases st with
      | nil => exact hs.elim
      | cons w st =>
      obtain ⟨hw, hs⟩ := hs
      obtain ⟨y, rfl, hy⟩ := hv
      have hw : w = _ := hw
      subst hw
      exact ⟨ls, _, rfl, hl, gTop _, hs⟩
    · simp only [Option.some.injEq, Prod.mk.injEq] at h
      obtain ⟨rfl, rfl, rfl⟩ := h
      cases st with
      | nil => exact hs.elim
      | cons v st =>
      obtain ⟨hv, hs⟩ := hs
      cases st with
      | nil => exact hs.elim
      | cons w st =>
      obtain ⟨hw, hs⟩ := hs
      obtain ⟨y, rfl, hy⟩ := hv
      obtain ⟨x, rfl, hx⟩ := hw
      exact ⟨ls, _, rfl, hl, gTop _, hs⟩
    · cases h
  case ishl =>
    simp only [aps, abi] at h
    split at h
    · rename_i y x r
      simp only [Option.some.injEq, Prod.mk.injEq] at h
      obtain ⟨rfl, rfl, rfl⟩ := h
      cases st with
      | nil => exact hs.elim
      | cons v st =>
      obtain ⟨hv, hs⟩ := hs
      cases st with
      | nil => exact hs.elim
      | cons w st =>
      obtain ⟨hw, hs⟩ := hs
      have hv : v = _ := hv
      subst hv
      have hw : w = _ := hw
      subst hw
      exact ⟨ls, _, rfl, hl, rfl, hs⟩
    · simp only [Option.some.injEq, Prod.mk.injEq] at h
      obtain ⟨rfl, rfl, rfl⟩ := h
      cases st with
      | nil => exact hs.elim
      | cons v st =>
      obtain ⟨hv, hs⟩ := hs
      cases st with
      | nil => exact hs.elim
      | cons w st =>
      obtain ⟨hw, hs⟩ := hs
      have hv : v = _ := hv
      subst hv
      obtain ⟨x, rfl, hx⟩ := hw
      exact ⟨ls, _, rfl, hl, gTop _, hs⟩
    · simp only [Option.some.injEq, Prod.mk.injEq] at h
      obtain ⟨rfl, rfl, rfl⟩ := h
      cases st with
      | nil => exact hs.elim
      | cons v st =>
      obtain ⟨hv, hs⟩ := hs
      cases st with
      | nil => exact hs.elim
      | cons w st =>
      obtain ⟨hw, hs⟩ := hs
      obtain ⟨y, rfl, hy⟩ := hv
      have hw : w = _ := hw
      subst hw
      exact ⟨ls, _, rfl, hl, gTop _, hs⟩
    · simp only [Option.some.injEq, Prod.mk.injEq] at h
      obtain ⟨rfl, rfl, rfl⟩ := h
      cases st with
      | nil => exact hs.elim
      | cons v st =>
      obtain ⟨hv, hs⟩ := hs
      cases st with
      | nil => exact hs.elim
      | cons w st =>
      obtain ⟨hw, hs⟩ := hs
      obtain ⟨y, rfl, hy⟩ := hv
      obtain ⟨x, rfl, hx⟩ := hw
      exact ⟨ls, _, rfl, hl, gTop _, hs⟩
    · cases h
  case ishr =>
    simp only [aps, abi] at h
    split at h
    · rename_i y x r
      simp only [Option.some.injEq, Prod.mk.injEq] at h
      obtain ⟨rfl, rfl, rfl⟩ := h
      cases st with
      | nil => exact hs.elim
      | cons v st =>
      obtain ⟨hv, hs⟩ := hs
      cases st with
      | nil => exact hs.elim
      | cons w st =>
      obtain ⟨hw, hs⟩ := hs
      have hv : v = _ := hv
      subst hv
      have hw : w = _ := hw
      subst hw
      exact ⟨ls, _, rfl, hl, rfl, hs⟩
    · simp only [Option.some.injEq, Prod.mk.injEq] at h
      obtain ⟨rfl, rfl, rfl⟩ := h
      cases st with
      | nil => exact hs.elim
      | cons v st =>
      obtain ⟨hv, hs⟩ := hs
      cases st with
      | nil => exact hs.elim
      | cons w st =>
      obtain ⟨hw, hs⟩ := hs
      have hv : v = _ := hv
      subst hv
      obtain ⟨x, rfl, hx⟩ := hw
      exact ⟨ls, _, rfl, hl, gTop _, hs⟩
    · simp only [Option.some.injEq, Prod.mk.injEq] at h
      obtain ⟨rfl, rfl, rfl⟩ := h
      cases st with
      | nil => exact hs.elim
      | cons v st =>
      obtain ⟨hv, hs⟩ := hs
      cases st with
      | nil => exact hs.elim
      | cons w st =>
      obtain ⟨hw, hs⟩ := hs
      obtain ⟨y, rfl, hy⟩ := hv
      have hw : w = _ := hw
      subst hw
      exact ⟨ls, _, rfl, hl, gTop _, hs⟩
    · simp only [Option.some.injEq, Prod.mk.injEq] at h
      obtain ⟨rfl, rfl, rfl⟩ := h
      cases st with
      | nil => exact hs.elim
      | cons v st =>
      obtain ⟨hv, hs⟩ := hs
      cases st with
      | nil => exact hs.elim
      | cons w st =>
      obtain ⟨hw, hs⟩ := hs
      obtain ⟨y, rfl, hy⟩ := hv
      obtain ⟨x, rfl, hx⟩ := hw
      exact ⟨ls, _, rfl, hl, gTop _, hs⟩
    · cases h
  case iushr =>
    simp only [aps, abi] at h
    split at h
    · rename_i y x r
      simp only [Option.some.injEq, Prod.mk.injEq] at h
      obtain ⟨rfl, rfl, rfl⟩ := h
      cases st with
      | nil => exact hs.elim
      | cons v st =>
      obtain ⟨hv, hs⟩ := hs
      cases st with
      | nil => exact hs.elim
      | cons w st =>
      obtain ⟨hw, hs⟩ := hs
      have hv : v = _ := hv
      subst hv
      have hw : w = _ := hw
      subst hw
      exact ⟨ls, _, rfl, hl, rfl, hs⟩
    · simp only [Option.some.injEq, Prod.mk.injEq] at h
      obtain ⟨rfl, rfl, rfl⟩ := h
      cases st with
      | nil => exact hs.elim
      | cons v st =>
      obtain ⟨hv, hs⟩ := hs
      cases st with
      | nil => exact hs.elim
      | cons w st =>
      obtain ⟨hw, hs⟩ := hs
      have hv : v = _ := hv
      subst hv
      obtain ⟨x, rfl, hx⟩ := hw
      exact ⟨ls, _, rfl, hl, gTop _, hs⟩
    · simp only [Option.some.injEq, Prod.mk.injEq] at h
      obtain ⟨rfl, rfl, rfl⟩ := h
      cases st with
      | nil => exact hs.elim
      | cons v st =>
      obtain ⟨hv, hs⟩ := hs
      cases st with
      | nil => exact hs.elim
      | cons w st =>
      obtain ⟨hw, hs⟩ := hs
      obtain ⟨y, rfl, hy⟩ := hv
      have hw : w = _ := hw
      subst hw
      exact ⟨ls, _, rfl, hl, gTop _, hs⟩
    · simp only [Option.some.injEq, Prod.mk.injEq] at h
      obtain ⟨rfl, rfl, rfl⟩ := h
      cases st with
      | nil => exact hs.elim
      | cons v st =>
      obtain ⟨hv, hs⟩ := hs
      cases st with
      | nil => exact hs.elim
      | cons w st =>
      obtain ⟨hw, hs⟩ := hs
      obtain ⟨y, rfl, hy⟩ := hv
      obtain ⟨x, rfl, hx⟩ := hw
      exact ⟨ls, _, rfl, hl, gTop _, hs⟩
    · cases h
  case iand =>
    simp only [aps, aan] at h
    split at h
    · rename_i y p r
      split at h
      · rename_i hc
        simp only [Option.some.injEq, Prod.mk.injEq] at h
        obtain ⟨rfl, rfl, rfl⟩ := h
        cases st with
        | nil => exact hs.elim
        | cons v st =>
        obtain ⟨hv, hs⟩ := hs
        cases st with
        | nil => exact hs.elim
        | cons w st =>
        obtain ⟨hw, hs⟩ := hs
        have hv : v = _ := hv
        subst hv
        obtain ⟨x, rfl, hx⟩ := hw
        have hx : gI p x := hx
        unfold gI at hx
        rw [if_neg hc.2] at hx
        refine ⟨ls, _, rfl, hl, ?_, hs⟩
        show Value.int (x &&& y) = _
        rw [hc.1, hx]
      · split at h
        · rename_i hc
          simp only [Option.some.injEq, Prod.mk.injEq] at h
          obtain ⟨rfl, rfl, rfl⟩ := h
          cases st with
          | nil => exact hs.elim
          | cons v st =>
          obtain ⟨hv, hs⟩ := hs
          cases st with
          | nil => exact hs.elim
          | cons w st =>
          obtain ⟨hw, hs⟩ := hs
          have hv : v = _ := hv
          subst hv
          obtain ⟨x, rfl, hx⟩ := hw
          exact ⟨ls, _, rfl, hl, ⟨_, rfl, gI_in (xand_le _ hc)⟩, hs⟩
        · simp only [Option.some.injEq, Prod.mk.injEq] at h
          obtain ⟨rfl, rfl, rfl⟩ := h
          cases st with
          | nil => exact hs.elim
          | cons v st =>
          obtain ⟨hv, hs⟩ := hs
          cases st with
          | nil => exact hs.elim
          | cons w st =>
          obtain ⟨hw, hs⟩ := hs
          have hv : v = _ := hv
          subst hv
          obtain ⟨x, rfl, hx⟩ := hw
          exact ⟨ls, _, rfl, hl, gTop _, hs⟩
    · simp only [abi] at h
      split at h
      · rename_i y x r
        simp only [Option.some.injEq, Prod.mk.injEq] at h
        obtain ⟨rfl, rfl, rfl⟩ := h
        cases st with
        | nil => exact hs.elim
        | cons v st =>
        obtain ⟨hv, hs⟩ := hs
        cases st with
        | nil => exact hs.elim
        | cons w st =>
        obtain ⟨hw, hs⟩ := hs
        have hv : v = _ := hv
        subst hv
        have hw : w = _ := hw
        subst hw
        exact ⟨ls, _, rfl, hl, rfl, hs⟩
      · simp only [Option.some.injEq, Prod.mk.injEq] at h
        obtain ⟨rfl, rfl, rfl⟩ := h
        cases st with
        | nil => exact hs.elim
        | cons v st =>
        obtain ⟨hv, hs⟩ := hs
        cases st with
        | nil => exact hs.elim
        | cons w st =>
        obtain ⟨hw, hs⟩ := hs
        have hv : v = _ := hv
        subst hv
        obtain ⟨x, rfl, hx⟩ := hw
        exact ⟨ls, _, rfl, hl, gTop _, hs⟩
      · simp only [Option.some.injEq, Prod.mk.injEq] at h
        obtain ⟨rfl, rfl, rfl⟩ := h
        cases st with
        | nil => exact hs.elim
        | cons v st =>
        obtain ⟨hv, hs⟩ := hs
        cases st with
        | nil => exact hs.elim
        | cons w st =>
        obtain ⟨hw, hs⟩ := hs
        obtain ⟨y, rfl, hy⟩ := hv
        have hw : w = _ := hw
        subst hw
        exact ⟨ls, _, rfl, hl, gTop _, hs⟩
      · simp only [Option.some.injEq, Prod.mk.injEq] at h
        obtain ⟨rfl, rfl, rfl⟩ := h
        cases st with
        | nil => exact hs.elim
        | cons v st =>
        obtain ⟨hv, hs⟩ := hs
        cases st with
        | nil => exact hs.elim
        | cons w st =>
        obtain ⟨hw, hs⟩ := hs
        obtain ⟨y, rfl, hy⟩ := hv
        obtain ⟨x, rfl, hx⟩ := hw
        exact ⟨ls, _, rfl, hl, gTop _, hs⟩
      · cases h
  case imul =>
    simp only [aps, aml] at h
    split at h
    · rename_i y p r
      split at h
      · rename_i hc
        simp only [Option.some.injEq, Prod.mk.injEq] at h
        obtain ⟨rfl, rfl, rfl⟩ := h
        cases st with
        | nil => exact hs.elim
        | cons v st =>
        obtain ⟨hv, hs⟩ := hs
        cases st with
        | nil => exact hs.elim
        | cons w st =>
        obtain ⟨hw, hs⟩ := hs
        have hv : v = _ := hv
        subst hv
        obtain ⟨x, rfl, hx⟩ := hw
        refine ⟨ls, _, rfl, hl, ?_, hs⟩
        show Value.int (x * y) = _
        rw [hc, Int32.mul_zero]
      · simp only [Option.some.injEq, Prod.mk.injEq] at h
        obtain ⟨rfl, rfl, rfl⟩ := h
        cases st with
        | nil => exact hs.elim
        | cons v st =>
        obtain ⟨hv, hs⟩ := hs
        cases st with
        | nil => exact hs.elim
        | cons w st =>
        obtain ⟨hw, hs⟩ := hs
        have hv : v = _ := hv
        subst hv
        obtain ⟨x, rfl, hx⟩ := hw
        exact ⟨ls, _, rfl, hl, gTop _, hs⟩
    · rename_i p x0 r
      split at h
      · rename_i hc
        simp only [Option.some.injEq, Prod.mk.injEq] at h
        obtain ⟨rfl, rfl, rfl⟩ := h
        cases st with
        | nil => exact hs.elim
        | cons v st =>
        obtain ⟨hv, hs⟩ := hs
        cases st with
        | nil => exact hs.elim
        | cons w st =>
        obtain ⟨hw, hs⟩ := hs
        obtain ⟨y, rfl, hy⟩ := hv
        have hw : w = _ := hw
        subst hw
        refine ⟨ls, _, rfl, hl, ?_, hs⟩
        show Value.int (_ * y) = _
        rw [hc, Int32.zero_mul]
      · simp only [Option.some.injEq, Prod.mk.injEq] at h
        obtain ⟨rfl, rfl, rfl⟩ := h
        cases st with
        | nil => exact hs.elim
        | cons v st =>
        obtain ⟨hv, hs⟩ := hs
        cases st with
        | nil => exact hs.elim
        | cons w st =>
        obtain ⟨hw, hs⟩ := hs
        obtain ⟨y, rfl, hy⟩ := hv
        have hw : w = _ := hw
        subst hw
        exact ⟨ls, _, rfl, hl, gTop _, hs⟩
    · simp only [abi] at h
      split at h
      · rename_i y x r
        simp only [Option.some.injEq, Prod.mk.injEq] at h
        obtain ⟨rfl, rfl, rfl⟩ := h
        cases st with
        | nil => exact hs.elim
        | cons v st =>
        obtain ⟨hv, hs⟩ := hs
        cases st with
        | nil => exact hs.elim
        | cons w st =>
        obtain ⟨hw, hs⟩ := hs
        have hv : v = _ := hv
        subst hv
        have hw : w = _ := hw
        subst hw
        exact ⟨ls, _, rfl, hl, rfl, hs⟩
      · simp only [Option.some.injEq, Prod.mk.injEq] at h
        obtain ⟨rfl, rfl, rfl⟩ := h
        cases st with
        | nil => exact hs.elim
        | cons v st =>
        obtain ⟨hv, hs⟩ := hs
        cases st with
        | nil => exact hs.elim
        | cons w st =>
        obtain ⟨hw, hs⟩ := hs
        have hv : v = _ := hv
        subst hv
        obtain ⟨x, rfl, hx⟩ := hw
        exact ⟨ls, _, rfl, hl, gTop _, hs⟩
      · simp only [Option.some.injEq, Prod.mk.injEq] at h
        obtain ⟨rfl, rfl, rfl⟩ := h
        cases st with
        | nil => exact hs.elim
        | cons v st =>
        obtain ⟨hv, hs⟩ := hs
        cases st with
        | nil => exact hs.elim
        | cons w st =>
        obtain ⟨hw, hs⟩ := hs
        obtain ⟨y, rfl, hy⟩ := hv
        have hw : w = _ := hw
        subst hw
        exact ⟨ls, _, rfl, hl, gTop _, hs⟩
      · simp only [Option.some.injEq, Prod.mk.injEq] at h
        obtain ⟨rfl, rfl, rfl⟩ := h
        cases st with
        | nil => exact hs.elim
        | cons v st =>
        obtain ⟨hv, hs⟩ := hs
        cases st with
        | nil => exact hs.elim
        | cons w st =>
        obtain ⟨hw, hs⟩ := hs
        obtain ⟨y, rfl, hy⟩ := hv
        obtain ⟨x, rfl, hx⟩ := hw
        exact ⟨ls, _, rfl, hl, gTop _, hs⟩
      · cases h
  case idiv =>
    simp only [aps, adi] at h
    split at h
    · rename_i y x r
      split at h
      · cases h
      rename_i hne
      simp only [Option.some.injEq, Prod.mk.injEq] at h
      obtain ⟨rfl, rfl, rfl⟩ := h
      cases st with
      | nil => exact hs.elim
      | cons v st =>
      obtain ⟨hv, hs⟩ := hs
      cases st with
      | nil => exact hs.elim
      | cons w st =>
      obtain ⟨hw, hs⟩ := hs
      have hv : v = _ := hv
      subst hv
      have hw : w = _ := hw
      subst hw
      exact ⟨ls, .int (x / y) :: st, by simp only [xps, xdi]; rw [if_neg hne], hl, rfl, hs⟩
    · rename_i y q r
      split at h
      · cases h
      rename_i hne
      simp only [Option.some.injEq, Prod.mk.injEq] at h
      obtain ⟨rfl, rfl, rfl⟩ := h
      cases st with
      | nil => exact hs.elim
      | cons v st =>
      obtain ⟨hv, hs⟩ := hs
      cases st with
      | nil => exact hs.elim
      | cons w st =>
      obtain ⟨hw, hs⟩ := hs
      have hv : v = _ := hv
      subst hv
      obtain ⟨x, rfl, hx⟩ := hw
      exact ⟨ls, .int (x / y) :: st, by simp only [xps, xdi]; rw [if_neg hne], hl, gTop _, hs⟩
    · cases h
  case irem =>
    simp only [aps, adi] at h
    split at h
    · rename_i y x r
      split at h
      · cases h
      rename_i hne
      simp only [Option.some.injEq, Prod.mk.injEq] at h
      obtain ⟨rfl, rfl, rfl⟩ := h
      cases st with
      | nil => exact hs.elim
      | cons v st =>
      obtain ⟨hv, hs⟩ := hs
      cases st with
      | nil => exact hs.elim
      | cons w st =>
      obtain ⟨hw, hs⟩ := hs
      have hv : v = _ := hv
      subst hv
      have hw : w = _ := hw
      subst hw
      exact ⟨ls, .int (x - x / y * y) :: st, by simp only [xps, xdi]; rw [if_neg hne], hl, rfl, hs⟩
    · rename_i y q r
      split at h
      · cases h
      rename_i hne
      simp only [Option.some.injEq, Prod.mk.injEq] at h
      obtain ⟨rfl, rfl, rfl⟩ := h
      cases st with
      | nil => exact hs.elim
      | cons v st =>
      obtain ⟨hv, hs⟩ := hs
      cases st with
      | nil => exact hs.elim
      | cons w st =>
      obtain ⟨hw, hs⟩ := hs
      have hv : v = _ := hv
      subst hv
      obtain ⟨x, rfl, hx⟩ := hw
      exact ⟨ls, .int (x - x / y * y) :: st, by simp only [xps, xdi]; rw [if_neg hne], hl, gTop _, hs⟩
    · cases h
  case ineg =>
    simp only [aps, aui] at h
    split at h
    · simp only [Option.some.injEq, Prod.mk.injEq] at h
      obtain ⟨rfl, rfl, rfl⟩ := h
      cases st with
      | nil => exact hs.elim
      | cons v st =>
      obtain ⟨hv, hs⟩ := hs
      have hv : v = _ := hv
      subst hv
      exact ⟨ls, _, rfl, hl, rfl, hs⟩
    · simp only [Option.some.injEq, Prod.mk.injEq] at h
      obtain ⟨rfl, rfl, rfl⟩ := h
      cases st with
      | nil => exact hs.elim
      | cons v st =>
      obtain ⟨hv, hs⟩ := hs
      obtain ⟨x, rfl, hx⟩ := hv
      exact ⟨ls, _, rfl, hl, gTop _, hs⟩
    · cases h
  case i2b =>
    simp only [aps, aui] at h
    split at h
    · simp only [Option.some.injEq, Prod.mk.injEq] at h
      obtain ⟨rfl, rfl, rfl⟩ := h
      cases st with
      | nil => exact hs.elim
      | cons v st =>
      obtain ⟨hv, hs⟩ := hs
      have hv : v = _ := hv
      subst hv
      exact ⟨ls, _, rfl, hl, rfl, hs⟩
    · simp only [Option.some.injEq, Prod.mk.injEq] at h
      obtain ⟨rfl, rfl, rfl⟩ := h
      cases st with
      | nil => exact hs.elim
      | cons v st =>
      obtain ⟨hv, hs⟩ := hs
      obtain ⟨x, rfl, hx⟩ := hv
      exact ⟨ls, _, rfl, hl, gTop _, hs⟩
    · cases h
  case i2c =>
    simp only [aps, aui] at h
    split at h
    · simp only [Option.some.injEq, Prod.mk.injEq] at h
      obtain ⟨rfl, rfl, rfl⟩ := h
      cases st with
      | nil => exact hs.elim
      | cons v st =>
      obtain ⟨hv, hs⟩ := hs
      have hv : v = _ := hv
      subst hv
      exact ⟨ls, _, rfl, hl, rfl, hs⟩
    · simp only [Option.some.injEq, Prod.mk.injEq] at h
      obtain ⟨rfl, rfl, rfl⟩ := h
      cases st with
      | nil => exact hs.elim
      | cons v st =>
      obtain ⟨hv, hs⟩ := hs
      obtain ⟨x, rfl, hx⟩ := hv
      exact ⟨ls, _, rfl, hl, gTop _, hs⟩
    · cases h
  case ladd =>
    simp only [aps, abl] at h
    split at h
    · simp only [Option.some.injEq, Prod.mk.injEq] at h
      obtain ⟨rfl, rfl, rfl⟩ := h
      cases st with
      | nil => exact hs.elim
      | cons v st =>
      obtain ⟨hv, hs⟩ := hs
      cases st with
      | nil => exact hs.elim
      | cons w st =>
      obtain ⟨hw, hs⟩ := hs
      have hv : v = _ := hv
      subst hv
      have hw : w = _ := hw
      subst hw
      exact ⟨ls, _, rfl, hl, rfl, hs⟩
    · cases h
  case lsub =>
    simp only [aps, abl] at h
    split at h
    · simp only [Option.some.injEq, Prod.mk.injEq] at h
      obtain ⟨rfl, rfl, rfl⟩ := h
      cases st with
      | nil => exact hs.elim
      | cons v st =>
      obtain ⟨hv, hs⟩ := hs
      cases st with
      | nil => exact hs.elim
      | cons w st =>
      obtain ⟨hw, hs⟩ := hs
      have hv : v = _ := hv
      subst hv
      have hw : w = _ := hw
      subst hw
      exact ⟨ls, _, rfl, hl, rfl, hs⟩
    · cases h
  case lmul =>
    simp only [aps, abl] at h
    split at h
    · simp only [Option.some.injEq, Prod.mk.injEq] at h
      obtain ⟨rfl, rfl, rfl⟩ := h
      cases st with
      | nil => exact hs.elim
      | cons v st =>
      obtain ⟨hv, hs⟩ := hs
      cases st with
      | nil => exact hs.elim
      | cons w st =>
      obtain ⟨hw, hs⟩ := hs
      have hv : v = _ := hv
      subst hv
      have hw : w = _ := hw
      subst hw
      exact ⟨ls, _, rfl, hl, rfl, hs⟩
    · cases h
  case land =>
    simp only [aps, abl] at h
    split at h
    · simp only [Option.some.injEq, Prod.mk.injEq] at h
      obtain ⟨rfl, rfl, rfl⟩ := h
      cases st with
      | nil => exact hs.elim
      | cons v st =>
      obtain ⟨hv, hs⟩ := hs
      cases st with
      | nil => exact hs.elim
      | cons w st =>
      obtain ⟨hw, hs⟩ := hs
      have hv : v = _ := hv
      subst hv
      have hw : w = _ := hw
      subst hw
      exact ⟨ls, _, rfl, hl, rfl, hs⟩
    · cases h
  case lcmp =>
    simp only [aps, acl] at h
    split at h
    · simp only [Option.some.injEq, Prod.mk.injEq] at h
      obtain ⟨rfl, rfl, rfl⟩ := h
      cases st with
      | nil => exact hs.elim
      | cons v st =>
      obtain ⟨hv, hs⟩ := hs
      cases st with
      | nil => exact hs.elim
      | cons w st =>
      obtain ⟨hw, hs⟩ := hs
      have hv : v = _ := hv
      subst hv
      have hw : w = _ := hw
      subst hw
      exact ⟨ls, _, rfl, hl, rfl, hs⟩
    · cases h
  case lshl =>
    simp only [aps, asl] at h
    split at h
    · simp only [Option.some.injEq, Prod.mk.injEq] at h
      obtain ⟨rfl, rfl, rfl⟩ := h
      cases st with
      | nil => exact hs.elim
      | cons v st =>
      obtain ⟨hv, hs⟩ := hs
      cases st with
      | nil => exact hs.elim
      | cons w st =>
      obtain ⟨hw, hs⟩ := hs
      have hv : v = _ := hv
      subst hv
      have hw : w = _ := hw
      subst hw
      exact ⟨ls, _, rfl, hl, rfl, hs⟩
    · cases h
  case ldiv =>
    simp only [aps, adl] at h
    split at h
    · rename_i y x r
      split at h
      · cases h
      rename_i hne
      simp only [Option.some.injEq, Prod.mk.injEq] at h
      obtain ⟨rfl, rfl, rfl⟩ := h
      cases st with
      | nil => exact hs.elim
      | cons v st =>
      obtain ⟨hv, hs⟩ := hs
      cases st with
      | nil => exact hs.elim
      | cons w st =>
      obtain ⟨hw, hs⟩ := hs
      have hv : v = _ := hv
      subst hv
      have hw : w = _ := hw
      subst hw
      exact ⟨ls, .long (x / y) :: st, by simp only [xps, xdl]; rw [if_neg hne], hl, rfl, hs⟩
    · cases h
  case lrem =>
    simp only [aps, adl] at h
    split at h
    · rename_i y x r
      split at h
      · cases h
      rename_i hne
      simp only [Option.some.injEq, Prod.mk.injEq] at h
      obtain ⟨rfl, rfl, rfl⟩ := h
      cases st with
      | nil => exact hs.elim
      | cons v st =>
      obtain ⟨hv, hs⟩ := hs
      cases st with
      | nil => exact hs.elim
      | cons w st =>
      obtain ⟨hw, hs⟩ := hs
      have hv : v = _ := hv
      subst hv
      have hw : w = _ := hw
      subst hw
      exact ⟨ls, .long (x - x / y * y) :: st, by simp only [xps, xdl]; rw [if_neg hne], hl, rfl, hs⟩
    · cases h
  case lneg =>
    simp only [aps, aul] at h
    split at h
    · simp only [Option.some.injEq, Prod.mk.injEq] at h
      obtain ⟨rfl, rfl, rfl⟩ := h
      cases st with
      | nil => exact hs.elim
      | cons v st =>
      obtain ⟨hv, hs⟩ := hs
      have hv : v = _ := hv
      subst hv
      exact ⟨ls, _, rfl, hl, rfl, hs⟩
    · cases h
  case i2l =>
    simp only [aps, ail] at h
    split at h
    · simp only [Option.some.injEq, Prod.mk.injEq] at h
      obtain ⟨rfl, rfl, rfl⟩ := h
      cases st with
      | nil => exact hs.elim
      | cons v st =>
      obtain ⟨hv, hs⟩ := hs
      have hv : v = _ := hv
      subst hv
      exact ⟨ls, _, rfl, hl, rfl, hs⟩
    · cases h
  case l2i =>
    simp only [aps, ali] at h
    split at h
    · simp only [Option.some.injEq, Prod.mk.injEq] at h
      obtain ⟨rfl, rfl, rfl⟩ := h
      cases st with
      | nil => exact hs.elim
      | cons v st =>
      obtain ⟨hv, hs⟩ := hs
      have hv : v = _ := hv
      subst hv
      exact ⟨ls, _, rfl, hl, rfl, hs⟩
    · cases h
  case dup =>
    simp only [aps, adup] at h
    split at h
    · split at h
      · rename_i hc
        simp only [Option.some.injEq, Prod.mk.injEq] at h
        obtain ⟨rfl, rfl, rfl⟩ := h
        cases st with
        | nil => exact hs.elim
        | cons v st =>
        obtain ⟨hv, hs⟩ := hs
        rw [gV_cat hv] at hc
        exact ⟨ls, v :: v :: st, by simp only [xps, xdup]; rw [if_pos hc], hl, hv, hv, hs⟩
      · cases h
    · cases h
  case pop =>
    simp only [aps, apop] at h
    split at h
    · split at h
      · rename_i hc
        simp only [Option.some.injEq, Prod.mk.injEq] at h
        obtain ⟨rfl, rfl, rfl⟩ := h
        cases st with
        | nil => exact hs.elim
        | cons v st =>
        obtain ⟨hv, hs⟩ := hs
        rw [gV_cat hv] at hc
        exact ⟨ls, st, by simp only [xps, xpop]; rw [if_pos hc], hl, hs⟩
      · cases h
    · cases h
  case pop2 =>
    simp only [aps, apop2] at h
    split at h
    · split at h
      · rename_i hc
        simp only [Option.some.injEq, Prod.mk.injEq] at h
        obtain ⟨rfl, rfl, rfl⟩ := h
        cases st with
        | nil => exact hs.elim
        | cons v st =>
        obtain ⟨hv, hs⟩ := hs
        rw [gV_cat hv] at hc
        exact ⟨ls, st, by simp only [xps, xpop2]; rw [if_pos hc], hl, hs⟩
      · cases h
    · cases h
  case dup2 =>
    simp only [aps, adup2] at h
    split at h
    · split at h
      · rename_i hc
        simp only [Option.some.injEq, Prod.mk.injEq] at h
        obtain ⟨rfl, rfl, rfl⟩ := h
        cases st with
        | nil => exact hs.elim
        | cons v st =>
        obtain ⟨hv, hs⟩ := hs
        cases st with
        | nil => exact hs.elim
        | cons w st =>
        obtain ⟨hw, hs⟩ := hs
        rw [gV_cat hv, gV_cat hw] at hc
        exact ⟨ls, v :: w :: v :: w :: st, by simp only [xps, xdup2]; rw [if_pos hc], hl, hv, hw, hv, hw, hs⟩
      · cases h
    · cases h
  case if_icmp c off =>
    simp only [aps, aic] at h
    split at h
    · rename_i vy vx r
      cases st with
      | nil => exact hs.elim
      | cons v st =>
      obtain ⟨hv, hs⟩ := hs
      cases st with
      | nil => exact hs.elim
      | cons w st =>
      obtain ⟨hw, hs⟩ := hs
      split at h
      · rename_i p q hp hq
        obtain ⟨y, rfl, hy⟩ := aiv_ok hv hq
        obtain ⟨x, rfl, hx⟩ := aiv_ok hw hp
        split at h
        · rename_i hc
          simp only [Option.some.injEq, Prod.mk.injEq] at h
          obtain ⟨rfl, rfl, rfl⟩ := h
          exact ⟨ls, st, by simp only [xps]; rw [acmp_ok hx hy hc]; rfl, hl, hs⟩
        · rename_i hc
          simp only [Option.some.injEq, Prod.mk.injEq] at h
          obtain ⟨rfl, rfl, rfl⟩ := h
          exact ⟨ls, st, by simp only [xps]; rw [acmp_ok hx hy hc]; rfl, hl, hs⟩
        · cases h
      · cases h
    · cases h
  case ifCond c off =>
    simp only [aps, aif] at h
    split at h
    · rename_i vx r
      cases st with
      | nil => exact hs.elim
      | cons w st =>
      obtain ⟨hw, hs⟩ := hs
      split at h
      · rename_i p hp
        obtain ⟨x, rfl, hx⟩ := aiv_ok hw hp
        have hz : ((0 : Int32), (0 : Int32)).1 ≤ (0 : Int32) ∧ (0 : Int32) ≤ ((0 : Int32), (0 : Int32)).2 := ⟨Int32.le_refl _, Int32.le_refl _⟩
        split at h
        · rename_i hc
          simp only [Option.some.injEq, Prod.mk.injEq] at h
          obtain ⟨rfl, rfl, rfl⟩ := h
          exact ⟨ls, st, by simp only [xps]; rw [xif_ic, acmp_ok hx hz hc]; rfl, hl, hs⟩
        · rename_i hc
          simp only [Option.some.injEq, Prod.mk.injEq] at h
          obtain ⟨rfl, rfl, rfl⟩ := h
          exact ⟨ls, st, by simp only [xps]; rw [xif_ic, acmp_ok hx hz hc]; rfl, hl, hs⟩
        · cases h
      · cases h
    · cases h
  case goto off =>
    simp only [aps, Option.some.injEq, Prod.mk.injEq] at h
    obtain ⟨rfl, rfl, rfl⟩ := h
    exact ⟨ls, st, rfl, hl, hs⟩
  case tableswitch d lo hi offs =>
    simp only [aps, asw] at h
    split at h
    · rename_i x r
      cases st with
      | nil => exact hs.elim
      | cons v st =>
      obtain ⟨hv, hs⟩ := hs
      have hv : v = _ := hv
      subst hv
      split at h
      · rename_i g1
        simp only [Option.some.injEq, Prod.mk.injEq] at h
        obtain ⟨rfl, rfl, rfl⟩ := h
        exact ⟨ls, st, by simp only [xps, xsw]; rw [if_pos g1], hl, hs⟩
      · rename_i g1
        split at h
        · rename_i g2
          simp only [Option.some.injEq, Prod.mk.injEq] at h
          obtain ⟨rfl, rfl, rfl⟩ := h
          exact ⟨ls, st, by simp only [xps, xsw]; rw [if_neg g1, if_pos g2], hl, hs⟩
        · rename_i g2
          split at h
          · rename_i t ht
            simp only [Option.some.injEq, Prod.mk.injEq] at h
            obtain ⟨rfl, rfl, rfl⟩ := h
            exact ⟨ls, st, by simp only [xps, xsw]; rw [if_neg g1, if_neg g2]; simp only [ht], hl, hs⟩
          · cases h
    · rename_i p r
      split at h
      · rename_i hc
        simp only [Option.some.injEq, Prod.mk.injEq] at h
        obtain ⟨rfl, rfl, rfl⟩ := h
        cases st with
        | nil => exact hs.elim
        | cons v st =>
        obtain ⟨hv, hs⟩ := hs
        obtain ⟨x, rfl, hx⟩ := hv
        have hx : gI p x := hx
        unfold gI at hx
        rw [if_pos hc.1, Int32.le_iff_toInt_le, Int32.le_iff_toInt_le] at hx
        rcases hc.2 with g | g
        · exact ⟨ls, st, by simp only [xps, xsw]; rw [if_pos (by omega)], hl, hs⟩
        · by_cases g1 : x.toInt < lo
          · exact ⟨ls, st, by simp only [xps, xsw]; rw [if_pos g1], hl, hs⟩
          · exact ⟨ls, st, by simp only [xps, xsw]; rw [if_neg g1, if_pos (by omega)], hl, hs⟩
      · cases h
    · cases h
  all_goals (simp [aps] at h)

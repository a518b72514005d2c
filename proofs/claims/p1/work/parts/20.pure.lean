/-! ===== the engine's instructions that ask neither heap nor tables: each is a row of the kit ===== -/
section XPS
variable {p : Program} {l : Launch} {e : Env} {R : Room} {s : State} {m : MethodId} {args : Array Value} {below : List Frame} {meth : Method} {c : Code} {H : Heap} {locs : List Loc} {cells slots : Nat} {Q : State → Prop}
set_option maxHeartbeats 4000000 in
theorem xps_sound {cc : ByteArray} (hx : p.tables.exec = Jvm.exec) (hb : c.code = cc) {ad : Nat → Nat} {nL i a n pc : Nat} {cd : List xI} {tg : List Nat} {ins : Instr} {ls : xL} {st : List Value} {L : Array Slot} {i' : Nat} {ls' : xL} {st' : List Value} (h : xps i a tg ls st ins = some (i', ls', st')) (hd : decode cc pc = .ok (ins, n)) (hn : xlen ins = 0 ∨ xlen ins = n) (hs : xpc cd (i + 1) (pc + n)) (hbr : xbr cd (pc, ins, n, a, tg) = true) (hl : xLH ad nL ls L)
    (kk : ∀ (pc' : Nat) (L' : Array Slot), xpc cd i' pc' → xLH ad nL ls' L' → W p l e R s m args below meth c H locs cells slots Q (F0 m pc' L' (st'.map (xsh ad)))) : W p l e R s m args below meth c H locs cells slots Q (F0 m pc L (st.map (xsh ad))) := by
  cases ins
  case iconst z =>
    have e : n = 1 := by rcases hn with q | q <;> simp [xlen] at q; exact q.symm
    subst e
    simp only [xps, Option.some.injEq, Prod.mk.injEq] at h
    obtain ⟨rfl, rfl, rfl⟩ := h
    exact lv_iconst hx hb hd rfl (kk _ _ hs hl)
  case bipush z =>
    have e : n = 2 := by rcases hn with q | q <;> simp [xlen] at q; exact q.symm
    subst e
    simp only [xps, Option.some.injEq, Prod.mk.injEq] at h
    obtain ⟨rfl, rfl, rfl⟩ := h
    exact lv_bipush hx hb hd rfl (kk _ _ hs hl)
  case sipush z =>
    have e : n = 3 := by rcases hn with q | q <;> simp [xlen] at q; exact q.symm
    subst e
    simp only [xps, Option.some.injEq, Prod.mk.injEq] at h
    obtain ⟨rfl, rfl, rfl⟩ := h
    exact lv_sipush hx hb hd rfl (kk _ _ hs hl)
  case lconst z =>
    have e : n = 1 := by rcases hn with q | q <;> simp [xlen] at q; exact q.symm
    subst e
    simp only [xps, Option.some.injEq, Prod.mk.injEq] at h
    obtain ⟨rfl, rfl, rfl⟩ := h
    exact lv_lconst hx hb hd rfl (kk _ _ hs hl)
  case iload k =>
    have e : n = 2 := by rcases hn with q | q <;> simp [xlen] at q; exact q.symm
    subst e
    simp only [xps, xldi] at h
    split at h
    · rename_i x hx1
      simp only [Option.some.injEq, Prod.mk.injEq] at h
      obtain ⟨rfl, rfl, rfl⟩ := h
      exact lv_iload hx hb hd (hl.get hx1) (kk _ _ hs hl)
    · cases h
  case iload_n k =>
    have e : n = 1 := by rcases hn with q | q <;> simp [xlen] at q; exact q.symm
    subst e
    simp only [xps, xldi] at h
    split at h
    · rename_i x hx1
      simp only [Option.some.injEq, Prod.mk.injEq] at h
      obtain ⟨rfl, rfl, rfl⟩ := h
      exact lv_iload_n hx hb hd rfl (hl.get hx1) (kk _ _ hs hl)
    · cases h
  case lload k =>
    have e : n = 2 := by rcases hn with q | q <;> simp [xlen] at q; exact q.symm
    subst e
    simp only [xps, xldl] at h
    split at h
    · rename_i x hx1
      simp only [Option.some.injEq, Prod.mk.injEq] at h
      obtain ⟨rfl, rfl, rfl⟩ := h
      exact lv_lload hx hb hd (hl.get hx1) (kk _ _ hs hl)
    · cases h
  case lload_n k =>
    have e : n = 1 := by rcases hn with q | q <;> simp [xlen] at q; exact q.symm
    subst e
    simp only [xps, xldl] at h
    split at h
    · rename_i x hx1
      simp only [Option.some.injEq, Prod.mk.injEq] at h
      obtain ⟨rfl, rfl, rfl⟩ := h
      exact lv_lload_n hx hb hd rfl (hl.get hx1) (kk _ _ hs hl)
    · cases h
  case aload k =>
    have e : n = 2 := by rcases hn with q | q <;> simp [xlen] at q; exact q.symm
    subst e
    simp only [xps, xlda] at h
    split at h
    · rename_i x hx1
      simp only [Option.some.injEq, Prod.mk.injEq] at h
      obtain ⟨rfl, rfl, rfl⟩ := h
      exact lv_aload hx hb hd (hl.get hx1) (kk _ _ hs hl)
    · cases h
  case aload_n k =>
    have e : n = 1 := by rcases hn with q | q <;> simp [xlen] at q; exact q.symm
    subst e
    simp only [xps, xlda] at h
    split at h
    · rename_i x hx1
      simp only [Option.some.injEq, Prod.mk.injEq] at h
      obtain ⟨rfl, rfl, rfl⟩ := h
      exact lv_aload_n hx hb hd rfl (hl.get hx1) (kk _ _ hs hl)
    · cases h
  case istore k =>
    have e : n = 2 := by rcases hn with q | q <;> simp [xlen] at q; exact q.symm
    subst e
    simp only [xps, xsti] at h
    split at h
    · rename_i x r
      split at h
      · rename_i hlt
        simp only [Option.some.injEq, Prod.mk.injEq] at h
        obtain ⟨rfl, rfl, rfl⟩ := h
        obtain ⟨h0, lst, h1, h2⟩ := hl
        exact lv_istore hx hb hd h1 (by omega) rfl (fun L' hL' => kk _ _ hs (xLH.set1 h0 h2 hL'))
      · cases h
    · cases h
  case istore_n k =>
    have e : n = 1 := by rcases hn with q | q <;> simp [xlen] at q; exact q.symm
    subst e
    simp only [xps, xsti] at h
    split at h
    · rename_i x r
      split at h
      · rename_i hlt
        simp only [Option.some.injEq, Prod.mk.injEq] at h
        obtain ⟨rfl, rfl, rfl⟩ := h
        obtain ⟨h0, lst, h1, h2⟩ := hl
        exact lv_istore_n hx hb hd rfl h1 (by omega) rfl (fun L' hL' => kk _ _ hs (xLH.set1 h0 h2 hL'))
      · cases h
    · cases h
  case lstore k =>
    have e : n = 2 := by rcases hn with q | q <;> simp [xlen] at q; exact q.symm
    subst e
    simp only [xps, xstl] at h
    split at h
    · rename_i x r
      split at h
      · rename_i hlt
        simp only [Option.some.injEq, Prod.mk.injEq] at h
        obtain ⟨rfl, rfl, rfl⟩ := h
        obtain ⟨h0, lst, h1, h2⟩ := hl
        exact lv_lstore hx hb hd h1 (by omega) rfl (fun L' hL' => kk _ _ hs (xLH.set2 h0 h2 hL'))
      · cases h
    · cases h
  case lstore_n k =>
    have e : n = 1 := by rcases hn with q | q <;> simp [xlen] at q; exact q.symm
    subst e
    simp only [xps, xstl] at h
    split at h
    · rename_i x r
      split at h
      · rename_i hlt
        simp only [Option.some.injEq, Prod.mk.injEq] at h
        obtain ⟨rfl, rfl, rfl⟩ := h
        obtain ⟨h0, lst, h1, h2⟩ := hl
        exact lv_lstore_n hx hb hd rfl h1 (by omega) rfl (fun L' hL' => kk _ _ hs (xLH.set2 h0 h2 hL'))
      · cases h
    · cases h
  case astore k =>
    have e : n = 2 := by rcases hn with q | q <;> simp [xlen] at q; exact q.symm
    subst e
    simp only [xps, xsta] at h
    split at h
    · rename_i x r
      split at h
      · rename_i hlt
        simp only [Option.some.injEq, Prod.mk.injEq] at h
        obtain ⟨rfl, rfl, rfl⟩ := h
        obtain ⟨h0, lst, h1, h2⟩ := hl
        exact lv_astore hx hb hd h1 (by omega) rfl (fun L' hL' => kk _ _ hs (xLH.set1 h0 h2 hL'))
      · cases h
    · cases h
  case astore_n k =>
    have e : n = 1 := by rcases hn with q | q <;> simp [xlen] at q; exact q.symm
    subst e
    simp only [xps, xsta] at h
    split at h
    · rename_i x r
      split at h
      · rename_i hlt
        simp only [Option.some.injEq, Prod.mk.injEq] at h
        obtain ⟨rfl, rfl, rfl⟩ := h
        obtain ⟨h0, lst, h1, h2⟩ := hl
        exact lv_astore_n hx hb hd rfl h1 (by omega) rfl (fun L' hL' => kk _ _ hs (xLH.set1 h0 h2 hL'))
      · cases h
    · cases h
  case iinc k z =>
    have e : n = 3 := by rcases hn with q | q <;> simp [xlen] at q; exact q.symm
    subst e
    simp only [xps, xinc] at h
    split at h
    · rename_i x hx1
      split at h
      · rename_i hlt
        simp only [Option.some.injEq, Prod.mk.injEq] at h
        obtain ⟨rfl, rfl, rfl⟩ := h
        obtain ⟨h0, lst, h1, h2⟩ := hl
        obtain ⟨kp, hkp⟩ := List.getElem?_of_mem (h2 k _ hx1)
        exact lv_iinc hx hb hd h1 hkp rfl (by omega) rfl (fun L' hL' => kk _ _ hs (xLH.set1 (v := .int (x + Int32.ofInt z)) h0 h2 hL'))
      · cases h
    · cases h
  case iadd =>
    have e : n = 1 := by rcases hn with q | q <;> simp [xlen] at q; exact q.symm
    subst e
    simp only [xps, xbi] at h
    split at h
    · simp only [Option.some.injEq, Prod.mk.injEq] at h
      obtain ⟨rfl, rfl, rfl⟩ := h
      exact lv_iadd hx hb hd (kk _ _ hs hl)
    · cases h
  case isub =>
    have e : n = 1 := by rcases hn with q | q <;> simp [xlen] at q; exact q.symm
    subst e
    simp only [xps, xbi] at h
    split at h
    · simp only [Option.some.injEq, Prod.mk.injEq] at h
      obtain ⟨rfl, rfl, rfl⟩ := h
      exact lv_isub hx hb hd (kk _ _ hs hl)
    · cases h
  case imul =>
    have e : n = 1 := by rcases hn with q | q <;> simp [xlen] at q; exact q.symm
    subst e
    simp only [xps, xbi] at h
    split at h
    · simp only [Option.some.injEq, Prod.mk.injEq] at h
      obtain ⟨rfl, rfl, rfl⟩ := h
      exact lv_imul hx hb hd (kk _ _ hs hl)
    · cases h
  case iand =>
    have e : n = 1 := by rcases hn with q | q <;> simp [xlen] at q; exact q.symm
    subst e
    simp only [xps, xbi] at h
    split at h
    · simp only [Option.some.injEq, Prod.mk.injEq] at h
      obtain ⟨rfl, rfl, rfl⟩ := h
      exact lv_iand hx hb hd (kk _ _ hs hl)
    · cases h
  case ior =>
    have e : n = 1 := by rcases hn with q | q <;> simp [xlen] at q; exact q.symm
    subst e
    simp only [xps, xbi] at h
    split at h
    · simp only [Option.some.injEq, Prod.mk.injEq] at h
      obtain ⟨rfl, rfl, rfl⟩ := h
      exact lv_ior hx hb hd (kk _ _ hs hl)
    · cases h
  case ixor =>
    have e : n = 1 := by rcases hn with q | q <;> simp [xlen] at q; exact q.symm
    subst e
    simp only [xps, xbi] at h
    split at h
    · simp only [Option.some.injEq, Prod.mk.injEq] at h
      obtain ⟨rfl, rfl, rfl⟩ := h
      exact lv_ixor hx hb hd (kk _ _ hs hl)
    · cases h
  case ishl =>
    have e : n = 1 := by rcases hn with q | q <;> simp [xlen] at q; exact q.symm
    subst e
    simp only [xps, xbi] at h
    split at h
    · simp only [Option.some.injEq, Prod.mk.injEq] at h
      obtain ⟨rfl, rfl, rfl⟩ := h
      exact lv_ishl hx hb hd (kk _ _ hs hl)
    · cases h
  case ishr =>
    have e : n = 1 := by rcases hn with q | q <;> simp [xlen] at q; exact q.symm
    subst e
    simp only [xps, xbi] at h
    split at h
    · simp only [Option.some.injEq, Prod.mk.injEq] at h
      obtain ⟨rfl, rfl, rfl⟩ := h
      exact lv_ishr hx hb hd (kk _ _ hs hl)
    · cases h
  case iushr =>
    have e : n = 1 := by rcases hn with q | q <;> simp [xlen] at q; exact q.symm
    subst e
    simp only [xps, xbi] at h
    split at h
    · simp only [Option.some.injEq, Prod.mk.injEq] at h
      obtain ⟨rfl, rfl, rfl⟩ := h
      exact lv_iushr hx hb hd rfl (kk _ _ hs hl)
    · cases h
  case ladd =>
    have e : n = 1 := by rcases hn with q | q <;> simp [xlen] at q; exact q.symm
    subst e
    simp only [xps, xbl] at h
    split at h
    · simp only [Option.some.injEq, Prod.mk.injEq] at h
      obtain ⟨rfl, rfl, rfl⟩ := h
      exact lv_ladd hx hb hd (kk _ _ hs hl)
    · cases h
  case lsub =>
    have e : n = 1 := by rcases hn with q | q <;> simp [xlen] at q; exact q.symm
    subst e
    simp only [xps, xbl] at h
    split at h
    · simp only [Option.some.injEq, Prod.mk.injEq] at h
      obtain ⟨rfl, rfl, rfl⟩ := h
      exact lv_lsub hx hb hd (kk _ _ hs hl)
    · cases h
  case lmul =>
    have e : n = 1 := by rcases hn with q | q <;> simp [xlen] at q; exact q.symm
    subst e
    simp only [xps, xbl] at h
    split at h
    · simp only [Option.some.injEq, Prod.mk.injEq] at h
      obtain ⟨rfl, rfl, rfl⟩ := h
      exact lv_lmul hx hb hd (kk _ _ hs hl)
    · cases h
  case land =>
    have e : n = 1 := by rcases hn with q | q <;> simp [xlen] at q; exact q.symm
    subst e
    simp only [xps, xbl] at h
    split at h
    · simp only [Option.some.injEq, Prod.mk.injEq] at h
      obtain ⟨rfl, rfl, rfl⟩ := h
      exact lv_land hx hb hd (kk _ _ hs hl)
    · cases h
  case ineg =>
    have e : n = 1 := by rcases hn with q | q <;> simp [xlen] at q; exact q.symm
    subst e
    simp only [xps, xui] at h
    split at h
    · simp only [Option.some.injEq, Prod.mk.injEq] at h
      obtain ⟨rfl, rfl, rfl⟩ := h
      exact lv_ineg hx hb hd (kk _ _ hs hl)
    · cases h
  case i2b =>
    have e : n = 1 := by rcases hn with q | q <;> simp [xlen] at q; exact q.symm
    subst e
    simp only [xps, xui] at h
    split at h
    · simp only [Option.some.injEq, Prod.mk.injEq] at h
      obtain ⟨rfl, rfl, rfl⟩ := h
      exact lv_i2b hx hb hd rfl (kk _ _ hs hl)
    · cases h
  case i2c =>
    have e : n = 1 := by rcases hn with q | q <;> simp [xlen] at q; exact q.symm
    subst e
    simp only [xps, xui] at h
    split at h
    · simp only [Option.some.injEq, Prod.mk.injEq] at h
      obtain ⟨rfl, rfl, rfl⟩ := h
      exact lv_i2c hx hb hd rfl (kk _ _ hs hl)
    · cases h
  case lneg =>
    have e : n = 1 := by rcases hn with q | q <;> simp [xlen] at q; exact q.symm
    subst e
    simp only [xps, xul] at h
    split at h
    · simp only [Option.some.injEq, Prod.mk.injEq] at h
      obtain ⟨rfl, rfl, rfl⟩ := h
      exact lv_lneg hx hb hd (kk _ _ hs hl)
    · cases h
  case lcmp =>
    have e : n = 1 := by rcases hn with q | q <;> simp [xlen] at q; exact q.symm
    subst e
    simp only [xps, xcl] at h
    split at h
    · simp only [Option.some.injEq, Prod.mk.injEq] at h
      obtain ⟨rfl, rfl, rfl⟩ := h
      exact W.lcmp hx hb hd (kk _ _ hs hl)
    · cases h
  case lshl =>
    have e : n = 1 := by rcases hn with q | q <;> simp [xlen] at q; exact q.symm
    subst e
    simp only [xps, xsl] at h
    split at h
    · simp only [Option.some.injEq, Prod.mk.injEq] at h
      obtain ⟨rfl, rfl, rfl⟩ := h
      exact lv_lshl hx hb hd rfl (kk _ _ hs hl)
    · cases h
  case i2l =>
    have e : n = 1 := by rcases hn with q | q <;> simp [xlen] at q; exact q.symm
    subst e
    simp only [xps, xil] at h
    split at h
    · simp only [Option.some.injEq, Prod.mk.injEq] at h
      obtain ⟨rfl, rfl, rfl⟩ := h
      exact lv_i2l hx hb hd rfl (kk _ _ hs hl)
    · cases h
  case l2i =>
    have e : n = 1 := by rcases hn with q | q <;> simp [xlen] at q; exact q.symm
    subst e
    simp only [xps, xli] at h
    split at h
    · simp only [Option.some.injEq, Prod.mk.injEq] at h
      obtain ⟨rfl, rfl, rfl⟩ := h
      exact lv_l2i hx hb hd rfl (kk _ _ hs hl)
    · cases h
  case idiv =>
    have e : n = 1 := by rcases hn with q | q <;> simp [xlen] at q; exact q.symm
    subst e
    simp only [xps, xdi] at h
    split at h
    · split at h
      · cases h
      · rename_i hne
        simp only [Option.some.injEq, Prod.mk.injEq] at h
        obtain ⟨rfl, rfl, rfl⟩ := h
        exact lv_idiv hx hb hd hne (kk _ _ hs hl)
    · cases h
  case irem =>
    have e : n = 1 := by rcases hn with q | q <;> simp [xlen] at q; exact q.symm
    subst e
    simp only [xps, xdi] at h
    split at h
    · split at h
      · cases h
      · rename_i hne
        simp only [Option.some.injEq, Prod.mk.injEq] at h
        obtain ⟨rfl, rfl, rfl⟩ := h
        exact lv_irem hx hb hd hne (kk _ _ hs hl)
    · cases h
  case ldiv =>
    have e : n = 1 := by rcases hn with q | q <;> simp [xlen] at q; exact q.symm
    subst e
    simp only [xps, xdl] at h
    split at h
    · split at h
      · cases h
      · rename_i hne
        simp only [Option.some.injEq, Prod.mk.injEq] at h
        obtain ⟨rfl, rfl, rfl⟩ := h
        exact lv_ldiv hx hb hd hne (kk _ _ hs hl)
    · cases h
  case lrem =>
    have e : n = 1 := by rcases hn with q | q <;> simp [xlen] at q; exact q.symm
    subst e
    simp only [xps, xdl] at h
    split at h
    · split at h
      · cases h
      · rename_i hne
        simp only [Option.some.injEq, Prod.mk.injEq] at h
        obtain ⟨rfl, rfl, rfl⟩ := h
        exact lv_lrem hx hb hd hne (kk _ _ hs hl)
    · cases h
  case dup =>
    have e : n = 1 := by rcases hn with q | q <;> simp [xlen] at q; exact q.symm
    subst e
    simp only [xps, xdup] at h
    split at h
    · split at h
      · rename_i hc
        simp only [Option.some.injEq, Prod.mk.injEq] at h
        obtain ⟨rfl, rfl, rfl⟩ := h
        exact lv_dup hx hb hd (by rw [xsh_cat]; exact hc) (kk _ _ hs hl)
      · cases h
    · cases h
  case pop =>
    have e : n = 1 := by rcases hn with q | q <;> simp [xlen] at q; exact q.symm
    subst e
    simp only [xps, xpop] at h
    split at h
    · split at h
      · rename_i hc
        simp only [Option.some.injEq, Prod.mk.injEq] at h
        obtain ⟨rfl, rfl, rfl⟩ := h
        exact lv_pop hx hb hd (by rw [xsh_cat]; exact hc) (kk _ _ hs hl)
      · cases h
    · cases h
  case pop2 =>
    have e : n = 1 := by rcases hn with q | q <;> simp [xlen] at q; exact q.symm
    subst e
    simp only [xps, xpop2] at h
    split at h
    · split at h
      · rename_i hc
        simp only [Option.some.injEq, Prod.mk.injEq] at h
        obtain ⟨rfl, rfl, rfl⟩ := h
        exact lv_pop2_2 hx hb hd (by rw [xsh_cat]; exact hc) (kk _ _ hs hl)
      · cases h
    · cases h
  case dup2 =>
    have e : n = 1 := by rcases hn with q | q <;> simp [xlen] at q; exact q.symm
    subst e
    simp only [xps, xdup2] at h
    split at h
    · split at h
      · rename_i hc
        simp only [Option.some.injEq, Prod.mk.injEq] at h
        obtain ⟨rfl, rfl, rfl⟩ := h
        exact lv_dup2_11 hx hb hd (by rw [xsh_cat]; exact hc.1) (by rw [xsh_cat]; exact hc.2) (kk _ _ hs hl)
      · cases h
    · cases h
  case ifCond cnd off =>
    have e : n = 3 := by rcases hn with q | q <;> simp [xlen] at q; exact q.symm
    subst e
    obtain ⟨t, ht, hpt⟩ := xto_at (show xto cd pc off a = true from hbr)
    simp only [xps, xif] at h
    split at h
    · cases cnd
      case eq =>
        simp only at h
        refine lv_if_eq hx hb hd ht (fun hc => ?_) (fun hc => ?_)
        · rw [if_pos hc] at h
          simp only [Option.some.injEq, Prod.mk.injEq] at h
          obtain ⟨rfl, rfl, rfl⟩ := h
          exact kk _ _ hpt hl
        · rw [if_neg hc] at h
          simp only [Option.some.injEq, Prod.mk.injEq] at h
          obtain ⟨rfl, rfl, rfl⟩ := h
          exact kk _ _ hs hl
      case ne =>
        simp only at h
        refine lv_if_ne hx hb hd ht (fun hc => ?_) (fun hc => ?_)
        · rw [if_neg hc] at h
          simp only [Option.some.injEq, Prod.mk.injEq] at h
          obtain ⟨rfl, rfl, rfl⟩ := h
          exact kk _ _ hpt hl
        · rw [if_pos hc] at h
          simp only [Option.some.injEq, Prod.mk.injEq] at h
          obtain ⟨rfl, rfl, rfl⟩ := h
          exact kk _ _ hs hl
      case lt =>
        simp only at h
        refine lv_if_lt hx hb hd ht (fun hc => ?_) (fun hc => ?_)
        · rw [if_pos hc] at h
          simp only [Option.some.injEq, Prod.mk.injEq] at h
          obtain ⟨rfl, rfl, rfl⟩ := h
          exact kk _ _ hpt hl
        · rw [if_neg hc] at h
          simp only [Option.some.injEq, Prod.mk.injEq] at h
          obtain ⟨rfl, rfl, rfl⟩ := h
          exact kk _ _ hs hl
      case ge =>
        simp only at h
        refine lv_if_ge hx hb hd ht (fun hc => ?_) (fun hc => ?_)
        · rw [if_pos hc] at h
          simp only [Option.some.injEq, Prod.mk.injEq] at h
          obtain ⟨rfl, rfl, rfl⟩ := h
          exact kk _ _ hpt hl
        · rw [if_neg hc] at h
          simp only [Option.some.injEq, Prod.mk.injEq] at h
          obtain ⟨rfl, rfl, rfl⟩ := h
          exact kk _ _ hs hl
      case gt =>
        simp only at h
        refine lv_if_gt hx hb hd ht (fun hc => ?_) (fun hc => ?_)
        · rw [if_pos hc] at h
          simp only [Option.some.injEq, Prod.mk.injEq] at h
          obtain ⟨rfl, rfl, rfl⟩ := h
          exact kk _ _ hpt hl
        · rw [if_neg hc] at h
          simp only [Option.some.injEq, Prod.mk.injEq] at h
          obtain ⟨rfl, rfl, rfl⟩ := h
          exact kk _ _ hs hl
      case le =>
        simp only at h
        refine lv_if_le hx hb hd ht (fun hc => ?_) (fun hc => ?_)
        · rw [if_pos hc] at h
          simp only [Option.some.injEq, Prod.mk.injEq] at h
          obtain ⟨rfl, rfl, rfl⟩ := h
          exact kk _ _ hpt hl
        · rw [if_neg hc] at h
          simp only [Option.some.injEq, Prod.mk.injEq] at h
          obtain ⟨rfl, rfl, rfl⟩ := h
          exact kk _ _ hs hl
    · cases h
  case if_icmp cnd off =>
    have e : n = 3 := by rcases hn with q | q <;> simp [xlen] at q; exact q.symm
    subst e
    obtain ⟨t, ht, hpt⟩ := xto_at (show xto cd pc off a = true from hbr)
    simp only [xps, xic] at h
    split at h
    · cases cnd
      case eq =>
        simp only at h
        refine lv_icmp_eq hx hb hd ht (fun hc => ?_) (fun hc => ?_)
        · rw [if_pos hc] at h
          simp only [Option.some.injEq, Prod.mk.injEq] at h
          obtain ⟨rfl, rfl, rfl⟩ := h
          exact kk _ _ hpt hl
        · rw [if_neg hc] at h
          simp only [Option.some.injEq, Prod.mk.injEq] at h
          obtain ⟨rfl, rfl, rfl⟩ := h
          exact kk _ _ hs hl
      case ne =>
        simp only at h
        refine lv_icmp_ne hx hb hd ht (fun hc => ?_) (fun hc => ?_)
        · rw [if_neg hc] at h
          simp only [Option.some.injEq, Prod.mk.injEq] at h
          obtain ⟨rfl, rfl, rfl⟩ := h
          exact kk _ _ hpt hl
        · rw [if_pos hc] at h
          simp only [Option.some.injEq, Prod.mk.injEq] at h
          obtain ⟨rfl, rfl, rfl⟩ := h
          exact kk _ _ hs hl
      case lt =>
        simp only at h
        refine lv_icmp_lt hx hb hd ht (fun hc => ?_) (fun hc => ?_)
        · rw [if_pos hc] at h
          simp only [Option.some.injEq, Prod.mk.injEq] at h
          obtain ⟨rfl, rfl, rfl⟩ := h
          exact kk _ _ hpt hl
        · rw [if_neg hc] at h
          simp only [Option.some.injEq, Prod.mk.injEq] at h
          obtain ⟨rfl, rfl, rfl⟩ := h
          exact kk _ _ hs hl
      case ge =>
        simp only at h
        refine lv_icmp_ge hx hb hd ht (fun hc => ?_) (fun hc => ?_)
        · rw [if_pos hc] at h
          simp only [Option.some.injEq, Prod.mk.injEq] at h
          obtain ⟨rfl, rfl, rfl⟩ := h
          exact kk _ _ hpt hl
        · rw [if_neg hc] at h
          simp only [Option.some.injEq, Prod.mk.injEq] at h
          obtain ⟨rfl, rfl, rfl⟩ := h
          exact kk _ _ hs hl
      case gt =>
        simp only at h
        refine lv_icmp_gt hx hb hd ht (fun hc => ?_) (fun hc => ?_)
        · rw [if_pos hc] at h
          simp only [Option.some.injEq, Prod.mk.injEq] at h
          obtain ⟨rfl, rfl, rfl⟩ := h
          exact kk _ _ hpt hl
        · rw [if_neg hc] at h
          simp only [Option.some.injEq, Prod.mk.injEq] at h
          obtain ⟨rfl, rfl, rfl⟩ := h
          exact kk _ _ hs hl
      case le =>
        simp only at h
        refine lv_icmp_le hx hb hd ht (fun hc => ?_) (fun hc => ?_)
        · rw [if_pos hc] at h
          simp only [Option.some.injEq, Prod.mk.injEq] at h
          obtain ⟨rfl, rfl, rfl⟩ := h
          exact kk _ _ hpt hl
        · rw [if_neg hc] at h
          simp only [Option.some.injEq, Prod.mk.injEq] at h
          obtain ⟨rfl, rfl, rfl⟩ := h
          exact kk _ _ hs hl
    · cases h
  case goto off =>
    have e : n = 3 := by rcases hn with q | q <;> simp [xlen] at q; exact q.symm
    subst e
    obtain ⟨t, ht, hpt⟩ := xto_at (show xto cd pc off a = true from hbr)
    simp only [xps, Option.some.injEq, Prod.mk.injEq] at h
    obtain ⟨rfl, rfl, rfl⟩ := h
    exact lv_goto hx hb hd ht (kk _ _ hpt hl)
  case tableswitch d lo hi offs =>
    have hbr' : (xto cd pc d a && decide (tg.length = offs.toList.length) && (offs.toList.zip tg).all (fun z => xto cd pc z.1 z.2)) = true := hbr
    simp only [Bool.and_eq_true, decide_eq_true_eq] at hbr'
    obtain ⟨⟨hb1, hb2⟩, hb3⟩ := hbr'
    obtain ⟨t, ht, hpt⟩ := xto_at hb1
    simp only [xps, xsw] at h
    split at h
    · rename_i x r
      split at h
      · rename_i hc
        simp only [Option.some.injEq, Prod.mk.injEq] at h
        obtain ⟨rfl, rfl, rfl⟩ := h
        exact lv_tableOut hx hb hd (Or.inl hc) ht (kk _ _ hpt hl)
      · rename_i hc1
        split at h
        · rename_i hc
          simp only [Option.some.injEq, Prod.mk.injEq] at h
          obtain ⟨rfl, rfl, rfl⟩ := h
          exact lv_tableOut hx hb hd (Or.inr hc) ht (kk _ _ hpt hl)
        · rename_i hc2
          split at h
          · rename_i tt htt
            have hlt : (x.toInt - lo).toNat < offs.toList.length := by rw [← hb2]; exact (List.getElem?_eq_some_iff.mp htt).1
            have ho : offs.toList[(x.toInt - lo).toNat]? = some offs.toList[(x.toInt - lo).toNat] := List.getElem?_eq_getElem hlt
            have hz : (offs.toList.zip tg)[(x.toInt - lo).toNat]? = some (offs.toList[(x.toInt - lo).toNat], tt) := by rw [List.getElem?_zip_eq_some]; exact ⟨ho, htt⟩
            obtain ⟨t2, ht2, hpt2⟩ := xto_at (List.all_eq_true.mp hb3 _ (List.mem_of_getElem? hz))
            simp only [Option.some.injEq, Prod.mk.injEq] at h
            obtain ⟨rfl, rfl, rfl⟩ := h
            exact lv_tableIn hx hb hd hc1 hc2 (by rw [← Array.getElem?_toList]; exact ho) ht2 (kk _ _ hpt2 hl)
          · cases h
    · cases h
  all_goals (simp [xps] at h)
end XPS

/-! ===== the induction over steps, and over calls ===== -/
theorem xhs_len {ft : List (List FieldType)} {h h' : xH} {st st' : List Value} {a : Nat} {tg : List Nat} {ins : Instr} (hr : xhs ft a tg st h ins = some (st', h')) : h.length ≤ h'.length ∧ xsz h ≤ xsz h' := by
  unfold xhs at hr
  split at hr
  · unfold xgf at hr
    split at hr <;> try cases hr
    split at hr <;> try cases hr
    split at hr <;> try cases hr
    split at hr <;> cases hr
    exact ⟨Nat.le_refl _, Nat.le_refl _⟩
  · unfold xpf at hr
    split at hr <;> try cases hr
    split at hr <;> try cases hr
    rename_i ho
    split at hr <;> cases hr
    exact ⟨by rw [List.length_set]; exact Nat.le_refl _, Nat.le_of_eq (xsz_set _ _ _ _ ho (by simp [xcz])).symm⟩
  · unfold xia at hr
    split at hr <;> try cases hr
    split at hr <;> try cases hr
    split at hr <;> try cases hr
    split at hr <;> cases hr
    exact ⟨Nat.le_refl _, Nat.le_refl _⟩
  · unfold xia at hr
    split at hr <;> try cases hr
    split at hr <;> try cases hr
    split at hr <;> try cases hr
    split at hr <;> cases hr
    exact ⟨Nat.le_refl _, Nat.le_refl _⟩
  · unfold xla at hr
    split at hr <;> try cases hr
    split at hr <;> try cases hr
    split at hr <;> try cases hr
    split at hr <;> cases hr
    exact ⟨Nat.le_refl _, Nat.le_refl _⟩
  · unfold xaa at hr
    split at hr <;> try cases hr
    split at hr <;> try cases hr
    split at hr <;> try cases hr
    split at hr <;> cases hr
    exact ⟨Nat.le_refl _, Nat.le_refl _⟩
  · unfold xis at hr
    split at hr <;> try cases hr
    split at hr <;> try cases hr
    rename_i ho
    split at hr <;> cases hr
    exact ⟨by rw [List.length_set]; exact Nat.le_refl _, Nat.le_of_eq (xsz_set _ _ _ _ ho (by simp [xcz])).symm⟩
  · unfold xis at hr
    split at hr <;> try cases hr
    split at hr <;> try cases hr
    rename_i ho
    split at hr <;> cases hr
    exact ⟨by rw [List.length_set]; exact Nat.le_refl _, Nat.le_of_eq (xsz_set _ _ _ _ ho (by simp [xcz])).symm⟩
  · unfold xls at hr
    split at hr <;> try cases hr
    split at hr <;> try cases hr
    rename_i ho
    split at hr <;> cases hr
    exact ⟨by rw [List.length_set]; exact Nat.le_refl _, Nat.le_of_eq (xsz_set _ _ _ _ ho (by simp [xcz])).symm⟩
  · unfold xal at hr
    split at hr <;> try cases hr
    split at hr <;> cases hr <;> exact ⟨Nat.le_refl _, Nat.le_refl _⟩
  · unfold xnw at hr
    split at hr <;> try cases hr
    split at hr <;> cases hr
    exact ⟨by simp, by rw [xsz_app]; omega⟩
  · unfold xna at hr
    split at hr <;> try cases hr
    split at hr <;> try cases hr
    split at hr <;> cases hr <;> exact ⟨by simp, by rw [xsz_app]; omega⟩
  · unfold xma at hr
    split at hr <;> try cases hr
    split at hr <;> cases hr
    exact ⟨by simp, by rw [xsz_app]; omega⟩
  · unfold xci at hr
    split at hr <;> cases hr <;> exact ⟨Nat.le_refl _, Nat.le_refl _⟩
  · split at hr <;> cases hr <;> exact ⟨Nat.le_refl _, Nat.le_refl _⟩
  · unfold xgs at hr
    split at hr <;> cases hr <;> exact ⟨Nat.le_refl _, Nat.le_refl _⟩
  · cases hr
    exact ⟨Nat.le_refl _, Nat.le_refl _⟩
  · cases hr
theorem xbt_big {h : xH} {st : List Value} {a : Nat} (h6 : 6 ≤ a) : xbt a st h = none := by
  match a, h6 with
  | n + 6, _ => rfl
theorem xbt_len {h h' : xH} {st st' : List Value} {a : Nat} (hr : xbt a st h = some (st', h')) : h'.length = h.length ∧ xsz h' = xsz h := by
  unfold xbt at hr
  split at hr
  · split at hr <;> try cases hr
    split at hr <;> cases hr
    exact ⟨rfl, rfl⟩
  · split at hr <;> try cases hr
    split at hr <;> try cases hr
    rename_i ho hdo
    split at hr <;> cases hr
    rename_i hcs
    exact ⟨by rw [List.length_set], xsz_set _ _ _ _ hdo (by simp [xcz, xcp_len hcs.2.2.2.2.2.1 hcs.2.2.2.2.2.2])⟩
  · split at hr <;> try cases hr
    split at hr <;> cases hr
    exact ⟨rfl, rfl⟩
  · split at hr <;> try cases hr
    split at hr <;> cases hr
    exact ⟨rfl, rfl⟩
  · split at hr <;> try cases hr
    split at hr <;> cases hr
    exact ⟨rfl, rfl⟩
  · split at hr <;> try cases hr
    split at hr <;> cases hr
    exact ⟨rfl, rfl⟩
  · cases hr
set_option maxHeartbeats 4000000 in
theorem xhs_sound {p : Program} {l : Launch} {e : Env} {R : Room} {s : State} {m : MethodId} {args : Array Value} {below : List Frame} {meth : Method} {c : Code} {H : Heap} {locs : List Loc} {cells slots : Nat} {Q : State → Prop}
    {cc : ByteArray} {D : va_G} {cl : List vw_C} {ad : Nat → Nat} {z : Nat} {ft : List (List FieldType)} {Ts : List Jvm.Cond} {Rs : xRs} {own : String} {h h' : xH} {st st' : List Value} {a pc n : Nat} {tg : List Nat} {L : Array Slot} {H0 : Heap} {ini : Bool} {ins : Instr}
    (hx : p.tables.exec = Jvm.exec) (hb : c.code = cc) (hts : ∀ w ∈ Ts, w.before args s = true) (hown : s.vm.findClass own = some m.cls) (hAO : xAO s) (hK : va_K D cl [] s) (hRs : xK Rs ad s) (hcl : xClOk Ts cl ft) (hin2 : ini = true → meth.name = "<init>") (hw : xW D cl ad z s h H) (hS0 : va_S (fun q => z ≤ q) H0 H locs) (hsite : xSite Ts Rs cl own ini a tg ins) (hd : decode cc pc = .ok (ins, n)) (hn : xlen ins = 0 ∨ xlen ins = n) (hr : xhs ft a tg st h ins = some (st', h')) :
    h.length ≤ h'.length ∧ xsz h ≤ xsz h' ∧ (cells + (h'.length - h.length) ≤ R.cells → slots + (xsz h' - xsz h) ≤ R.slots → (∀ (H' : Heap) (locs' : List Loc), xW D cl ad z s h' H' → va_S (fun q => z ≤ q) H0 H' locs' → W p l e R s m args below meth c H' locs' (cells + (h'.length - h.length)) (slots + (xsz h' - xsz h)) Q (F0 m (pc + n) L (st'.map (xsh ad)))) → W p l e R s m args below meth c H locs cells slots Q (F0 m pc L (st.map (xsh ad)))) := by
  have same : ∀ {g : xH}, g.length = h.length → xsz g = xsz h → (∀ {A B : Nat}, A + (g.length - h.length) = A ∧ B + (xsz g - xsz h) = B) := fun e1 e2 => by rw [e1, e2]; simp
  cases ins
  case getfield ix =>
    have e : n = 3 := by rcases hn with q | q <;> simp [xlen] at q; exact q.symm
    subst e
    have hh : h' = h := (by
      have hr : xgf a (tg.headD 0) st h = some (st', h') := hr
      unfold xgf at hr
      split at hr <;> try cases hr
      split at hr <;> try cases hr
      split at hr <;> try cases hr
      split at hr <;> cases hr
      rfl)
    subst hh
    refine ⟨Nat.le_refl _, Nat.le_refl _, fun hR1 hR2 kk => ?_⟩
    rw [Nat.sub_self, Nat.sub_self] at kk
    exact (xgf_sound hx hb hts hown hK hcl hw hsite hd hr (kk _ _ hw hS0)).2
  case putfield ix =>
    have e : n = 3 := by rcases hn with q | q <;> simp [xlen] at q; exact q.symm
    subst e
    have hr : xpf (((ft.getD (tg.headD 0) []).getD a .int)) a (tg.headD 0) st h = some (st', h') := hr
    have key := @xpf_sound p l e R s m args below meth c H locs cells slots Q cc D cl ad z ft Ts Rs own h h' st st' a pc tg L H0 ini ix hx hb hts hown hK hcl hin2 hw hS0 hsite hd hr
    have hh : h'.length = h.length ∧ xsz h' = xsz h := by
      unfold xpf at hr
      split at hr <;> try cases hr
      split at hr <;> try cases hr
      rename_i ho
      split at hr <;> cases hr
      exact ⟨by rw [List.length_set], xsz_set _ _ _ _ ho (by simp [xcz])⟩
    refine ⟨by omega, by omega, fun hR1 hR2 kk => ?_⟩
    have e2 := @same h' hh.1 hh.2 cells slots
    rw [e2.1, e2.2] at kk
    exact (key kk).2.2
  case iaload =>
    have e : n = 1 := by rcases hn with q | q <;> simp [xlen] at q; exact q.symm
    subst e
    have hr : xia 0 st h = some (st', h') := hr
    have hh : h' = h := (by
      unfold xia at hr
      split at hr <;> try cases hr
      split at hr <;> try cases hr
      split at hr <;> try cases hr
      split at hr <;> cases hr
      rfl)
    subst hh
    refine ⟨Nat.le_refl _, Nat.le_refl _, fun hR1 hR2 kk => ?_⟩
    rw [Nat.sub_self, Nat.sub_self] at kk
    exact (xia_sound (t := 0) hx hb hw hd (Or.inl rfl) hr (kk _ _ hw hS0)).2
  case baload =>
    have e : n = 1 := by rcases hn with q | q <;> simp [xlen] at q; exact q.symm
    subst e
    have hr : xia 1 st h = some (st', h') := hr
    have hh : h' = h := (by
      unfold xia at hr
      split at hr <;> try cases hr
      split at hr <;> try cases hr
      split at hr <;> try cases hr
      split at hr <;> cases hr
      rfl)
    subst hh
    refine ⟨Nat.le_refl _, Nat.le_refl _, fun hR1 hR2 kk => ?_⟩
    rw [Nat.sub_self, Nat.sub_self] at kk
    exact (xia_sound (t := 1) hx hb hw hd (Or.inr rfl) hr (kk _ _ hw hS0)).2
  case laload =>
    have e : n = 1 := by rcases hn with q | q <;> simp [xlen] at q; exact q.symm
    subst e
    have hr : xla st h = some (st', h') := hr
    have hh : h' = h := (by
      unfold xla at hr
      split at hr <;> try cases hr
      split at hr <;> try cases hr
      split at hr <;> try cases hr
      split at hr <;> cases hr
      rfl)
    subst hh
    refine ⟨Nat.le_refl _, Nat.le_refl _, fun hR1 hR2 kk => ?_⟩
    rw [Nat.sub_self, Nat.sub_self] at kk
    exact (xla_sound hx hb hw hd hr (kk _ _ hw hS0)).2
  case aaload =>
    have e : n = 1 := by rcases hn with q | q <;> simp [xlen] at q; exact q.symm
    subst e
    have hr : xaa st h = some (st', h') := hr
    have hh : h' = h := (by
      unfold xaa at hr
      split at hr <;> try cases hr
      split at hr <;> try cases hr
      split at hr <;> try cases hr
      split at hr <;> cases hr
      rfl)
    subst hh
    refine ⟨Nat.le_refl _, Nat.le_refl _, fun hR1 hR2 kk => ?_⟩
    rw [Nat.sub_self, Nat.sub_self] at kk
    exact (xaa_sound hx hb hw hd hr (kk _ _ hw hS0)).2
  case iastore =>
    have e : n = 1 := by rcases hn with q | q <;> simp [xlen] at q; exact q.symm
    subst e
    have hr : xis 0 (fun x => if (0 : Nat) = 0 then x else x.toInt8.toInt32) st h = some (st', h') := hr
    have key := @xis_sound p l e R s m args below meth c H locs cells slots Q cc D cl ad z h h' st st' pc L H0 0 hx hb hw hS0 hd (Or.inl rfl) hr
    have hh : h'.length = h.length ∧ xsz h' = xsz h := by
      unfold xis at hr
      split at hr <;> try cases hr
      split at hr <;> try cases hr
      rename_i ho
      split at hr <;> cases hr
      exact ⟨by rw [List.length_set], xsz_set _ _ _ _ ho (by simp [xcz])⟩
    refine ⟨by omega, by omega, fun hR1 hR2 kk => ?_⟩
    have e2 := @same h' hh.1 hh.2 cells slots
    rw [e2.1, e2.2] at kk
    exact (key kk).2.2
  case bastore =>
    have e : n = 1 := by rcases hn with q | q <;> simp [xlen] at q; exact q.symm
    subst e
    have hr : xis 1 (fun x => if (1 : Nat) = 0 then x else x.toInt8.toInt32) st h = some (st', h') := hr
    have key := @xis_sound p l e R s m args below meth c H locs cells slots Q cc D cl ad z h h' st st' pc L H0 1 hx hb hw hS0 hd (Or.inr rfl) hr
    have hh : h'.length = h.length ∧ xsz h' = xsz h := by
      unfold xis at hr
      split at hr <;> try cases hr
      split at hr <;> try cases hr
      rename_i ho
      split at hr <;> cases hr
      exact ⟨by rw [List.length_set], xsz_set _ _ _ _ ho (by simp [xcz])⟩
    refine ⟨by omega, by omega, fun hR1 hR2 kk => ?_⟩
    have e2 := @same h' hh.1 hh.2 cells slots
    rw [e2.1, e2.2] at kk
    exact (key kk).2.2
  case lastore =>
    have e : n = 1 := by rcases hn with q | q <;> simp [xlen] at q; exact q.symm
    subst e
    have hr : xls st h = some (st', h') := hr
    have key := @xls_sound p l e R s m args below meth c H locs cells slots Q cc D cl ad z h h' st st' pc L H0 hx hb hw hS0 hd hr
    have hh : h'.length = h.length ∧ xsz h' = xsz h := by
      unfold xls at hr
      split at hr <;> try cases hr
      split at hr <;> try cases hr
      rename_i ho
      split at hr <;> cases hr
      exact ⟨by rw [List.length_set], xsz_set _ _ _ _ ho (by simp [xcz])⟩
    refine ⟨by omega, by omega, fun hR1 hR2 kk => ?_⟩
    have e2 := @same h' hh.1 hh.2 cells slots
    rw [e2.1, e2.2] at kk
    exact (key kk).2.2
  case arraylength =>
    have e : n = 1 := by rcases hn with q | q <;> simp [xlen] at q; exact q.symm
    subst e
    have hr : xal st h = some (st', h') := hr
    have hh : h' = h := (by
      unfold xal at hr
      split at hr <;> try cases hr
      split at hr <;> cases hr <;> rfl)
    subst hh
    refine ⟨Nat.le_refl _, Nat.le_refl _, fun hR1 hR2 kk => ?_⟩
    rw [Nat.sub_self, Nat.sub_self] at kk
    exact (xal_sound hx hb hw hd hr (kk _ _ hw hS0)).2
  case new ix =>
    have e : n = 3 := by rcases hn with q | q <;> simp [xlen] at q; exact q.symm
    subst e
    have hr : xnw a ft st h = some (st', h') := hr
    have hh : h.length ≤ h'.length ∧ xsz h ≤ xsz h' := by
      unfold xnw at hr
      split at hr <;> try cases hr
      split at hr <;> cases hr
      exact ⟨by simp, by rw [xsz_app]; omega⟩
    exact ⟨hh.1, hh.2, fun hR1 hR2 kk => xnw_sound hx hb hts hown hK hcl hw hS0 hsite hd hr hR1 hR2 kk⟩
  case newarray t =>
    have e : n = 2 := by rcases hn with q | q <;> simp [xlen] at q; exact q.symm
    subst e
    have hr : xna t st h = some (st', h') := hr
    have hh : h.length ≤ h'.length ∧ xsz h ≤ xsz h' := by
      unfold xna at hr
      split at hr <;> try cases hr
      split at hr <;> try cases hr
      split at hr <;> cases hr <;> exact ⟨by simp, by rw [xsz_app]; omega⟩
    exact ⟨hh.1, hh.2, fun hR1 hR2 kk => xna_sound hx hb hts hw hS0 hsite hd hr hR1 hR2 kk⟩
  case multianewarray ix d =>
    have e : n = 4 := by rcases hn with q | q <;> simp [xlen] at q; exact q.symm
    subst e
    have hr : xma st h = some (st', h') := hr
    have hh : h.length ≤ h'.length ∧ xsz h ≤ xsz h' := by
      unfold xma at hr
      split at hr <;> try cases hr
      split at hr <;> cases hr
      exact ⟨by simp, by rw [xsz_app]; omega⟩
    exact ⟨hh.1, hh.2, fun hR1 hR2 kk => xma_sound hx hb hts hown hAO hw hS0 hsite hd hr hR1 hR2 kk⟩
  case ldc ix =>
    have e : n = 2 := by rcases hn with q | q <;> simp [xlen] at q; exact q.symm
    subst e
    have hr : xci a tg st h = some (st', h') := hr
    cases tg with
    | cons tb tg =>
      have hr : some (Value.ref a :: st, h) = some (st', h') := hr
      cases hr
      refine ⟨Nat.le_refl _, Nat.le_refl _, fun hR1 hR2 kk => ?_⟩
      rw [Nat.sub_self, Nat.sub_self] at kk
      rcases hsite with ⟨hf, -⟩ | ⟨-, tx, hin⟩
      · cases hf
      · exact va_ldcS hx hb hown (hRs _ hin) hd (kk _ _ hw hS0)
    | nil =>
      have hr : some (Value.int (Int32.ofNat a) :: st, h) = some (st', h') := hr
      cases hr
      refine ⟨Nat.le_refl _, Nat.le_refl _, fun hR1 hR2 kk => ?_⟩
      rw [Nat.sub_self, Nat.sub_self] at kk
      rcases hsite with ⟨-, hin⟩ | ⟨hf, -⟩
      · exact lv_ldc hx hb hown (hts _ hin) hd (kk _ _ hw hS0)
      · exact absurd rfl hf
  case getstatic ix =>
    have e : n = 3 := by rcases hn with q | q <;> simp [xlen] at q; exact q.symm
    subst e
    have hr : xgs a st h = some (st', h') := hr
    have hh : h' = h := (by
      unfold xgs at hr
      split at hr <;> cases hr <;> rfl)
    subst hh
    refine ⟨Nat.le_refl _, Nat.le_refl _, fun hR1 hR2 kk => ?_⟩
    rw [Nat.sub_self, Nat.sub_self] at kk
    rcases hsite with ⟨rfl, hl⟩ | ⟨rfl, hl⟩
    · cases hr
      obtain ⟨cf, kf, fi, f, q, cell, h1, h2, h3, h4, h5, h6, h7, h8⟩ := hw.2.2.2.1.2.1
      exact W.gets hx hb hown (hts _ hl) h1 h2 h3 h4 h5 (fun e => by rw [e] at h6; cases h6) h7 rfl hd (kk _ _ hw hS0)
    · cases hr
      obtain ⟨cf, kf, fi, f, q, cell, h1, h2, h3, h4, h5, h6, h7, h8⟩ := hw.2.2.2.1.2.2
      exact W.gets hx hb hown (hts _ hl) h1 h2 h3 h4 h5 (fun e => by rw [e] at h6; cases h6) h7 rfl hd (kk _ _ hw hS0)
  case ldc_w ix =>
    have e : n = 3 := by rcases hn with q | q <;> simp [xlen] at q; exact q.symm
    subst e
    cases tg with
    | cons tb tg => cases hr
    | nil =>
    have hr : some (Value.int (Int32.ofNat a) :: st, h) = some (st', h') := hr
    cases hr
    refine ⟨Nat.le_refl _, Nat.le_refl _, fun hR1 hR2 kk => ?_⟩
    rw [Nat.sub_self, Nat.sub_self] at kk
    exact lv_ldcw hx hb hown (hts _ (hsite rfl)) hd (kk _ _ hw hS0)
  case ldc2_w ix =>
    have e : n = 3 := by rcases hn with q | q <;> simp [xlen] at q; exact q.symm
    subst e
    have hr : some (Value.long (Int64.ofNat a) :: st, h) = some (st', h') := hr
    cases hr
    refine ⟨Nat.le_refl _, Nat.le_refl _, fun hR1 hR2 kk => ?_⟩
    rw [Nat.sub_self, Nat.sub_self] at kk
    exact lv_ldc2 hx hb hown (hts _ hsite) hd (kk _ _ hw hS0)
  all_goals (cases hr)

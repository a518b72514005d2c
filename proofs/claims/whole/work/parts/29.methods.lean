theorem xrun_len {ft : List (List FieldType)} {P : List xM} {cd : List xI} {call : Nat → List Value → xH → xR} (hcall : ∀ (k : Nat) (as : List Value) (h : xH) (r : Option Value) (h' : xH), call k as h = some (r, h') → h.length ≤ h'.length ∧ xsz h ≤ xsz h') : ∀ (f i : Nat) (ls : xL) (st : List Value) (h : xH) (r : Option Value) (h' : xH), xrun ft P call cd f i ls st h = some (r, h') → h.length ≤ h'.length ∧ xsz h ≤ xsz h' := by
  intro f
  induction f with
  | zero => intro i ls st h r h' hr; cases hr
  | succ f ih =>
    intro i ls st h r h' hr
    unfold xrun at hr
    split at hr
    · cases hr
    · split at hr
      · exact ih _ _ _ _ _ _ hr
      · split at hr
        · rename_i nx hhs
          have a := ih _ _ _ _ _ _ hr
          have b := xhs_len hhs
          exact ⟨Nat.le_trans b.1 a.1, Nat.le_trans b.2 a.2⟩
        · split at hr
          · unfold xend at hr
            split at hr
            · split at hr <;> cases hr
              exact ⟨Nat.le_refl _, Nat.le_refl _⟩
            · split at hr <;> cases hr
              exact ⟨Nat.le_refl _, Nat.le_refl _⟩
            · split at hr <;> cases hr
              exact ⟨Nat.le_refl _, Nat.le_refl _⟩
            · cases hr
          · split at hr
            · split at hr
              · cases hr
              · split at hr
                · cases hr
                · rename_i rr hc
                  have a := ih _ _ _ _ _ _ hr
                  have b := hcall _ _ _ rr.1 rr.2 hc
                  exact ⟨Nat.le_trans b.1 a.1, Nat.le_trans b.2 a.2⟩
            · split at hr
              · cases hr
              · rename_i nx hbt
                have a := ih _ _ _ _ _ _ hr
                have b := xbt_len hbt
                exact ⟨by omega, by omega⟩
theorem xex_len {ft : List (List FieldType)} {P : List xM} {F : Nat} : ∀ (d k : Nat) (as : List Value) (h : xH) (r : Option Value) (h' : xH), xex ft P F d k as h = some (r, h') → h.length ≤ h'.length ∧ xsz h ≤ xsz h'
  | 0, k, as, h, r, h', hr => by cases hr
  | d + 1, k, as, h, r, h', hr => by
    unfold xex at hr
    split at hr
    · cases hr
    · split at hr
      · split at hr
        · cases hr
        · rename_i rr hc
          split at hr
          · cases hr
            exact xrun_len (fun k as h r h' => xex_len d k as h r h') _ _ _ _ _ _ _ hc
          · cases hr
      · cases hr
/-- a method's contract out of a walk of its body, in a class of which some methods are run otherwise, but not this one -/
theorem xofWF {l : Launch} {y : MethodName} {ws ws' : List Jvm.Cond} {rm : Room} {Pc : Array Value → State → Prop} {Qc : Array Value → State → Outcome → State → Prop} {mc ms : Nat} {free : Addr → Prop} {cc : ByteArray} {maxL : Nat} {ret : Option FieldType}
    (hy : plainFor y = true) (hw : ws = Jvm.Cond.code y cc maxL ret :: ws')
    (body : ∀ p e s m args below meth c s₁, BodyLoose p l y (headSpec ws rm) cc maxL ret e s m args below meth c s₁ → c.maxLocals = maxL → Pc args s →
      W p l e (headSpec ws rm).room s m args below meth c s.heap [] 0 0 (MQ below Qc args s mc ms free) (entryFrame m args maxL)) : Met l y ws rm Pc Qc mc ms free := by
  refine Jvm.Free.MetFree.of_bodySF (code := cc) (maxLocals := maxL) (ret := ret) hy ?_ ?_
  · intro args s m h hn
    obtain ⟨meth, c, h1, h2, h3, h4, h5, h6, -, -⟩ := Jvm.Cond.code_spec hn (atoms_spec (ws := ws) h _ (by rw [hw]; exact List.mem_cons_self))
    exact ⟨meth, c, h1, h2, h3, h4, h5, h6⟩
  · intro p e s m args below meth c s₁ B hml hP _
    have hh0 : s₁.heap = s.heap := by rw [B.state]; rfl
    obtain ⟨t, a1, o, b1, b2, b3⟩ := body p e s m args below meth c s₁ B hml hP s₁ hh0 (Stand.of_body B)
    exact ⟨t, o, a1, b1, b2, ⟨b3.1, b3.2⟩⟩
set_option maxHeartbeats 4000000 in
/-- THE ENGINE IS SOUND -/
theorem xex_sound {l : Launch} {cl : List vw_C} {ft : List (List FieldType)} {P : List xM} {Ts : List Jvm.Cond} {Rs : xRs} {Ns : xNs} (hg : ∀ w ∈ Ts, goodWord w = true) (hcl : xClOk Ts cl ft) (hP : xPOk Ts Rs Ns cl P) {F : Nat} : ∀ (d k : Nat) (M : xM) (as : List Value) (h : xH) (r : Option Value) (h' : xH), P[k]? = some M → xex ft P F d k as h = some (r, h') → xMet Ts Rs Ns cl l d M as h r h'
  | 0, k, M, as, h, r, h', hM, hr => by cases hr
  | d + 1, k, M, as, h, r, h', hM, hr => by
    have hlen := xex_len _ _ _ _ _ _ hr
    refine ⟨hlen.1, hlen.2, fun D ad z => ?_⟩
    unfold xex at hr
    rw [hM] at hr
    simp only at hr
    split at hr
    · rename_i hal
      split at hr
      · cases hr
      · rename_i rr hrun
        split at hr
        · rename_i hok
          cases hr
          obtain ⟨hMo, hcd⟩ := hP k M hM
          refine xofWF (cc := M.bytes) (maxL := M.maxL) (ret := M.ret) hMo.1 rfl ?_
          intro p e s m args below meth c s₁ B hml hv
          obtain ⟨rfl, hw, hK, hN, hRs⟩ := hv
          have hts0 := atoms_spec (ws := Jvm.Cond.code M.y M.bytes M.maxL M.ret :: Ts) B.pre
          have hts : ∀ w ∈ Ts, w.before (as.map (xsh ad)).toArray s = true := fun w hw => hts0 w (List.mem_cons_of_mem _ hw)
          have hown : s.vm.findClass M.y.cls = some m.cls := findClass_of_methodNamed B.named
          have hnm : meth.name = M.y.name := (name_of_methodNamed B.named B.method).1
          have hlocks := B.notSynchronized
          obtain ⟨L, eL, hl⟩ := xent_LH ad as hal m
          rw [eL]
          have key := xrun_sound (p := p) (l := l) (e := e) (R := (headSpec (Jvm.Cond.code M.y M.bytes M.maxL M.ret :: Ts) (xrm (d + 1) (h'.length - h.length) (xsz h' - xsz h))).room) (s := s) (m := m) (args := (as.map (xsh ad)).toArray) (below := below) (meth := meth) (c := c) (Q := MQ below (xQc D cl ad z r h') (as.map (xsh ad)).toArray s (h'.length - h.length) (xsz h' - xsz h) (fun q => z ≤ q)) (D := D) (ad := ad) (z := z) (d := d) (nL := M.maxL) (H0 := s.heap)
            B.exec B.bytes hml hg hts hown hK hN hRs hcl (fun hi => by
              rw [hnm]
              exact (hMo.2.2.2.2.2.2.2.2 (of_decide_eq_true hi)).1) (fun k M hM => (hP k M hM).1) hcd ⟨Nat.le_refl _, Nat.le_refl _⟩ (fun k M as h r h' hM hr => xex_sound hg hcl hP d k M as h r h' hM hr) F 0 _ _ _ _ _ hrun
          refine key.2.2 0 L s.heap [] 0 0 hcd.1 hl hw va_S.rf (by rw [Nat.zero_add]; exact Nat.le_refl _) (by rw [Nat.zero_add]; exact Nat.le_refl _) (fun pc' L' H' locs' st' ins' hdec hxe hw' hS' => ?_)
          have hq : ∀ (rv : Option Value), r.map (xsh ad) = rv → ∀ t : State, t.heap = H' → s.WarmedH t.vm → xQc D cl ad z r h' (as.map (xsh ad)).toArray s (.returned rv) t := fun rv hrv t ht hW => ⟨by rw [hrv], by rw [ht]; exact hw'.moved hW.alike, hS'.F ht⟩
          rw [Nat.zero_add, Nat.zero_add]
          unfold xend at hxe
          split at hxe
          · split at hxe <;> cases hxe
            rename_i v
            have hret : ∃ ty, M.ret = some ty ∧ narrow ty (.int v) = .int v := by
              unfold xrok at hok
              split at hok <;> try cases hok
              · rename_i e1 e2; cases e2
              · rename_i e1 e2; exact ⟨_, e1, rfl⟩
              · rename_i e1 e2
                cases e2
                refine ⟨_, e1, ?_⟩
                show Value.int (v &&& 1) = .int v
                rw [eq_of_beq hok]
              · rename_i e1 e2
                cases e2
                exact ⟨_, e1, eq_of_beq hok⟩
              · rename_i e1 e2
                cases e2
                exact ⟨_, e1, eq_of_beq hok⟩
              · rename_i e1 e2; cases e2
            obtain ⟨ty, ht, hn⟩ := hret
            exact W.zret B.exec B.bytes (by rw [B.returns, ht]) hn (hq (some (.int v)) rfl) (fun q h => hS'.2.2 q h) hdec hlocks
          · split at hxe <;> cases hxe
            rename_i v
            have hret : M.ret = some .long := by
              unfold xrok at hok
              split at hok <;> try cases hok
              · rename_i e1 e2; cases e2
              · rename_i e1 e2; cases e2
              · rename_i e1 e2; cases e2
              · rename_i e1 e2; cases e2
              · rename_i e1 e2; cases e2
              · rename_i e1 e2; exact e1
            exact W.lret B.exec B.bytes (by rw [B.returns, hret]) (hq (some (.long v)) rfl) (fun q h => hS'.2.2 q h) hdec hlocks
          · split at hxe <;> cases hxe
            have hret : M.ret = none := by
              unfold xrok at hok
              split at hok <;> try cases hok
              · rename_i e1 e2; exact e1
              · rename_i e1 e2; cases e2
              · rename_i e1 e2; cases e2
              · rename_i e1 e2; cases e2
              · rename_i e1 e2; cases e2
              · rename_i e1 e2; cases e2
            exact W.vret B.exec B.bytes (by rw [B.returns, hret]) (hq none rfl) (fun q h => hS'.2.2 q h) hdec hlocks
          · cases hxe
        · cases hr
    · cases hr

/-! ===== an instruction as a function of what it finds: the kernel then asks for its kind but once ===== -/
abbrev cF : Type := Nat → aL → List aV → bH → Option (Nat × aL × List aV × bH)
def cA (r : aS) (h : bH) : Option (Nat × aL × List aV × bH) := match r with
  | some (i', ls', st') => some (i', ls', st', h)
  | none => none
def cB (i : Nat) (ls : aL) (r : bQ) : Option (Nat × aL × List aV × bH) := match r with
  | some (st', h') => some (i + 1, ls, st', h')
  | none => none
noncomputable def cop (ft : List (List FieldType)) (a : Nat) (tg : List Nat) (ins : Instr) : Option cF := match ins with
  | .iload k => some (fun i ls st h => cA (bldi i ls st k) h)
  | .iload_n k => some (fun i ls st h => cA (bldi i ls st k) h)
  | .aload k => some (fun i ls st h => cA (blda i ls st k) h)
  | .aload_n k => some (fun i ls st h => cA (blda i ls st k) h)
  | .istore k => some (fun i ls st h => cA (bsti i ls st k) h)
  | .istore_n k => some (fun i ls st h => cA (bsti i ls st k) h)
  | .astore k => some (fun i ls st h => cA (bsta i ls st k) h)
  | .astore_n k => some (fun i ls st h => cA (bsta i ls st k) h)
  | .lload k => some (fun i ls st h => cA (aldl i ls st k) h)
  | .lload_n k => some (fun i ls st h => cA (aldl i ls st k) h)
  | .lstore k => some (fun i ls st h => cA (astl i ls st k) h)
  | .lstore_n k => some (fun i ls st h => cA (astl i ls st k) h)
  | .iinc k n => some (fun i ls st h => cA (binc i ls st k (Int32.ofInt n)) h)
  | .iadd => some (fun i ls st h => cA (abi i ls st (fun x y => x + y)) h)
  | .isub => some (fun i ls st h => cA (abi i ls st (fun x y => x - y)) h)
  | .ior => some (fun i ls st h => cA (abi i ls st (fun x y => x ||| y)) h)
  | .ixor => some (fun i ls st h => cA (abi i ls st (fun x y => x ^^^ y)) h)
  | .ishl => some (fun i ls st h => cA (abi i ls st (fun x y => x <<< (y &&& 31))) h)
  | .ishr => some (fun i ls st h => cA (abi i ls st (fun x y => x >>> (y &&& 31))) h)
  | .imul => some (fun i ls st h => cA (aml i ls st) h)
  | .iand => some (fun i ls st h => cA (aan i ls st) h)
  | .idiv => some (fun i ls st h => cA (adi i ls st (fun x y => x / y)) h)
  | .irem => some (fun i ls st h => cA (adi i ls st (fun x y => x - x / y * y)) h)
  | .ineg => some (fun i ls st h => cA (aui i ls st (fun x => -x)) h)
  | .ladd => some (fun i ls st h => cA (abl i ls st (fun x y => x + y)) h)
  | .lsub => some (fun i ls st h => cA (abl i ls st (fun x y => x - y)) h)
  | .lmul => some (fun i ls st h => cA (abl i ls st (fun x y => x * y)) h)
  | .ldiv => some (fun i ls st h => cA (adl i ls st (fun x y => x / y)) h)
  | .lrem => some (fun i ls st h => cA (adl i ls st (fun x y => x - x / y * y)) h)
  | .lcmp => some (fun i ls st h => cA (acl i ls st) h)
  | .i2l => some (fun i ls st h => cA (ail i ls st) h)
  | .l2i => some (fun i ls st h => cA (ali i ls st) h)
  | .dup => some (fun i ls st h => cA (adup i ls st) h)
  | .pop => some (fun i ls st h => cA (apop i ls st) h)
  | .ifCond c o => some (fun i ls st h => cA (aif i ls st a c) h)
  | .if_icmp c o => some (fun i ls st h => cA (aic i ls st a c) h)
  | .iconst n => some (fun i ls st h => some (i + 1, ls, .inl (.int (Int32.ofInt n)) :: st, h))
  | .bipush n => some (fun i ls st h => some (i + 1, ls, .inl (.int (Int8.ofInt n).toInt32) :: st, h))
  | .sipush n => some (fun i ls st h => some (i + 1, ls, .inl (.int (Int16.ofInt n).toInt32) :: st, h))
  | .lconst n => some (fun i ls st h => some (i + 1, ls, .inl (.long (Int64.ofNat (n : Nat))) :: st, h))
  | .goto o => some (fun i ls st h => some (a, ls, st, h))
  | .getfield ix => some (fun i ls st h => cB i ls (bgf a (tg.headD 0) st h))
  | .putfield ix => some (fun i ls st h => cB i ls (bpf (((ft.getD (tg.headD 0) []).getD a .int)) a (tg.headD 0) st h))
  | .iaload => some (fun i ls st h => cB i ls (bia 0 st h))
  | .baload => some (fun i ls st h => cB i ls (bia 1 st h))
  | .laload => some (fun i ls st h => cB i ls (bla st h))
  | .aaload => some (fun i ls st h => cB i ls (baa st h))
  | .iastore => some (fun i ls st h => cB i ls (bis 0 (fun x => x) st h))
  | .bastore => some (fun i ls st h => cB i ls (bis 1 (fun x => x.toInt8.toInt32) st h))
  | .lastore => some (fun i ls st h => cB i ls (bls st h))
  | .arraylength => some (fun i ls st h => cB i ls (bal st h))
  | _ => none
theorem cA_ok {r : aS} {h : bH} {n : Nat × aL × List aV × bH} (e : cA r h = some n) : r = some (n.1, n.2.1, n.2.2.1) ∧ n.2.2.2 = h := by
  unfold cA at e
  split at e <;> cases e
  exact ⟨rfl, rfl⟩
theorem cB_ok {i : Nat} {ls : aL} {r : bQ} {n : Nat × aL × List aV × bH} (e : cB i ls r = some n) : r = some (n.2.2.1, n.2.2.2) ∧ n.1 = i + 1 ∧ n.2.1 = ls := by
  unfold cB at e
  split at e <;> cases e
  exact ⟨rfl, rfl, rfl⟩
theorem cop_ok {ft : List (List FieldType)} {a : Nat} {tg : List Nat} {ins : Instr} {f : cF} (hf : cop ft a tg ins = some f) {i : Nat} {ls : aL} {st : List aV} {h : bH} {n : Nat × aL × List aV × bH} (e : f i ls st h = some n) :
    (aps i a tg ls st ins = some (n.1, n.2.1, n.2.2.1) ∧ n.2.2.2 = h) ∨ (aps i a tg ls st ins = none ∧ bhs a ft tg st h ins = some (n.2.2.1, n.2.2.2) ∧ n.1 = i + 1 ∧ n.2.1 = ls) := by
  rw [← bps_eq]
  cases ins <;> try cases hf
  case iload k => exact Or.inl (cA_ok e)
  case iload_n k => exact Or.inl (cA_ok e)
  case aload k => exact Or.inl (cA_ok e)
  case aload_n k => exact Or.inl (cA_ok e)
  case istore k => exact Or.inl (cA_ok e)
  case istore_n k => exact Or.inl (cA_ok e)
  case astore k => exact Or.inl (cA_ok e)
  case astore_n k => exact Or.inl (cA_ok e)
  case lload k => exact Or.inl (cA_ok e)
  case lload_n k => exact Or.inl (cA_ok e)
  case lstore k => exact Or.inl (cA_ok e)
  case lstore_n k => exact Or.inl (cA_ok e)
  case iinc k n => exact Or.inl (cA_ok e)
  case iadd => exact Or.inl (cA_ok e)
  case isub => exact Or.inl (cA_ok e)
  case ior => exact Or.inl (cA_ok e)
  case ixor => exact Or.inl (cA_ok e)
  case ishl => exact Or.inl (cA_ok e)
  case ishr => exact Or.inl (cA_ok e)
  case imul => exact Or.inl (cA_ok e)
  case iand => exact Or.inl (cA_ok e)
  case idiv => exact Or.inl (cA_ok e)
  case irem => exact Or.inl (cA_ok e)
  case ineg => exact Or.inl (cA_ok e)
  case ladd => exact Or.inl (cA_ok e)
  case lsub => exact Or.inl (cA_ok e)
  case lmul => exact Or.inl (cA_ok e)
  case ldiv => exact Or.inl (cA_ok e)
  case lrem => exact Or.inl (cA_ok e)
  case lcmp => exact Or.inl (cA_ok e)
  case i2l => exact Or.inl (cA_ok e)
  case l2i => exact Or.inl (cA_ok e)
  case dup => exact Or.inl (cA_ok e)
  case pop => exact Or.inl (cA_ok e)
  case ifCond c o => exact Or.inl (cA_ok e)
  case if_icmp c o => exact Or.inl (cA_ok e)
  case iconst n =>
    cases e
    exact Or.inl ⟨rfl, rfl⟩
  case bipush n =>
    cases e
    exact Or.inl ⟨rfl, rfl⟩
  case sipush n =>
    cases e
    exact Or.inl ⟨rfl, rfl⟩
  case lconst n =>
    cases e
    exact Or.inl ⟨rfl, rfl⟩
  case goto o =>
    cases e
    exact Or.inl ⟨rfl, rfl⟩
  case getfield ix => exact Or.inr ⟨rfl, cB_ok e⟩
  case putfield ix => exact Or.inr ⟨rfl, cB_ok e⟩
  case iaload => exact Or.inr ⟨rfl, cB_ok e⟩
  case baload => exact Or.inr ⟨rfl, cB_ok e⟩
  case laload => exact Or.inr ⟨rfl, cB_ok e⟩
  case aaload => exact Or.inr ⟨rfl, cB_ok e⟩
  case iastore => exact Or.inr ⟨rfl, cB_ok e⟩
  case bastore => exact Or.inr ⟨rfl, cB_ok e⟩
  case lastore => exact Or.inr ⟨rfl, cB_ok e⟩
  case arraylength => exact Or.inr ⟨rfl, cB_ok e⟩
noncomputable def crun (ft : List (List FieldType)) (P : List (List xM)) (call : Nat → List aV → bH → bR) (cd : List xI) (f : Nat) : Nat → List xI → aL → List aV → bH → bR :=
  @Nat.rec (fun _ => Nat → List xI → aL → List aV → bH → bR) (fun _ _ _ _ _ => none) (fun _ ih i sx ls st h => match sx with
    | [] => none
    | q :: sy => match cop ft q.2.2.2.1 q.2.2.2.2 q.2.1 with
      | some g => (match g i ls st h with
        | some (i', ls', st', h') => ih i' (if i' = i + 1 then sy else ldrop cd i') ls' st' h'
        | none => none)
      | none => match aps i q.2.2.2.1 q.2.2.2.2 ls st q.2.1 with
        | some (i', ls', st') => ih i' (if i' = i + 1 then sy else ldrop cd i') ls' st' h
        | none => match bhs q.2.2.2.1 ft q.2.2.2.2 st h q.2.1 with
          | some (st', h') => ih (i + 1) sy ls st' h'
          | none => match xisc q.2.1 with
            | false => bend st h q.2.1
            | true => match q.2.2.2.2 with
              | [] => (match bca P q.2.2.2.1 st h with
                | none => none
                | some (as, rs) => match call q.2.2.2.1 as h with
                  | none => none
                  | some (r, h') => ih (i + 1) sy ls (r.toList ++ rs) h')
              | _ => (match bbt q.2.2.2.1 st h with
                | none => none
                | some (st', h') => ih (i + 1) sy ls st' h')) f
theorem crun_ok {ft : List (List FieldType)} {P : List (List xM)} {call bcall : Nat → List aV → bH → bR} {cd : List xI} (hcall : ∀ k as h r, call k as h = some r → bcall k as h = some r) : ∀ (f i : Nat) (sx : List xI) (ls : aL) (st : List aV) (h : bH) (r : Option aV × bH), crun ft P call cd f i sx ls st h = some r → brun ft P bcall cd f i sx ls st h = some r := by
  intro f
  induction f with
  | zero => intro i sx ls st h r hr; cases hr
  | succ f ih =>
    intro i sx ls st h r hr
    have ih : ∀ (i : Nat) (sx : List xI) (ls : aL) (st : List aV) (h : bH) (r : Option aV × bH), (@Nat.rec (fun _ => Nat → List xI → aL → List aV → bH → bR) (fun _ _ _ _ _ => none) _ f) i sx ls st h = some r → brun ft P bcall cd f i sx ls st h = some r := ih
    unfold brun
    unfold crun at hr
    simp only at hr
    split at hr
    · cases hr
    · rename_i q sy
      simp only
      rw [bps_eq]
      split at hr
      · rename_i g hg
        split at hr
        · rename_i i2 ls2 st2 h2 hn
          rcases cop_ok hg hn with ⟨e1, e2⟩ | ⟨e1, e2, e3, e4⟩
          · rw [e1]
            have e2 : h2 = h := e2
            subst e2
            exact ih _ _ _ _ _ _ hr
          · rw [e1, e2]
            have e3 : i2 = i + 1 := e3
            have e4 : ls2 = ls := e4
            subst e3
            subst e4
            rw [if_pos rfl] at hr
            exact ih _ _ _ _ _ _ hr
        · cases hr
      · split at hr
        · rename_i i2 ls2 st2 hn
          rw [hn]
          exact ih _ _ _ _ _ _ hr
        · rename_i hn
          rw [hn]
          simp only
          split at hr
          · rename_i st2 h2 hn2
            rw [hn2]
            exact ih _ _ _ _ _ _ hr
          · rename_i hn2
            rw [hn2]
            simp only
            split at hr
            · rename_i hisc
              rw [hisc]
              exact hr
            · rename_i hisc
              rw [hisc]
              simp only
              split at hr
              · rename_i htg
                rw [htg]
                simp only
                split at hr
                · cases hr
                · rename_i as rs hc
                  rw [hc]
                  simp only
                  split at hr
                  · cases hr
                  · rename_i r0 h0 hr0
                    rw [hcall _ _ _ _ hr0]
                    exact ih _ _ _ _ _ _ hr
              · rename_i htg
                split at hr
                · cases hr
                · rename_i st2 h2 hn3
                  rw [hn3]
                  split
                  · rename_i e2
                    exact absurd e2 htg
                  · exact ih _ _ _ _ _ _ hr
noncomputable def cex (ft : List (List FieldType)) (P : List (List xM)) (F : Nat) : Nat → Nat → List aV → bH → bR
  | 0, _, _, _ => none
  | d + 1, k, as, h => match bget P k with
    | none => none
    | some M => if (aes as).length ≤ M.maxL then match crun ft P (cex ft P F d) M.cd F 0 M.cd (aent M.maxL as) [] h with
      | none => none
      | some r => if arok M.ret r.1 then some r else none else none
theorem cex_ok {ft : List (List FieldType)} {P : List (List xM)} {F : Nat} : ∀ (d k : Nat) (as : List aV) (h : bH) (r : Option aV × bH), cex ft P F d k as h = some r → bex ft P F d k as h = some r
  | 0, k, as, h, r, hr => by cases hr
  | d + 1, k, as, h, r, hr => by
    unfold cex at hr
    unfold bex
    split at hr
    · cases hr
    · rename_i M hM
      rw [hM]
      simp only
      split at hr
      · rename_i hl
        rw [if_pos hl]
        split at hr
        · cases hr
        · rename_i r0 hr0
          rw [crun_ok (fun k as h r q => cex_ok d k as h r q) _ _ _ _ _ _ _ hr0]
          exact hr
      · cases hr

/-! ===== the engine: calls, whole methods, and that it tells of the machine ===== -/
/-- a method: its name, its code, how many locals, what it returns, how many parameters, of what kind (0 static, 1 of an object, 2 a constructor), of which class, its instructions -/
abbrev xM : Type := MethodName × ByteArray × Nat × Option FieldType × Nat × Nat × Nat × List xI
abbrev xM.y (M : xM) : MethodName := M.1
abbrev xM.bytes (M : xM) : ByteArray := M.2.1
abbrev xM.maxL (M : xM) : Nat := M.2.2.1
abbrev xM.ret (M : xM) : Option FieldType := M.2.2.2.1
abbrev xM.np (M : xM) : Nat := M.2.2.2.2.1
abbrev xM.kind (M : xM) : Nat := M.2.2.2.2.2.1
abbrev xM.ci (M : xM) : Nat := M.2.2.2.2.2.2.1
abbrev xM.cd (M : xM) : List xI := M.2.2.2.2.2.2.2
abbrev xR : Type := Option (Option Value × xH)
def xrc (ci : Nat) (as : List Value) (h : xH) : Bool := match as with
  | .ref o :: _ => (match h[o]? with
    | some (.inl (c, _)) => c == ci
    | _ => false)
  | _ => false
def xcw (st : List Value) : Nat := (st.map fun v => v.category).sum
def xca (P : List xM) (a : Nat) (st : List Value) (h : xH) : Option (List Value × List Value) := match P[a]? with
  | none => none
  | some M => if (if M.kind = 0 then M.np else M.np + 1) ≤ st.length ∧ xcw (st.drop (if M.kind = 0 then M.np else M.np + 1)) ≤ 8 ∧ (M.kind = 0 ∨ xrc M.ci (st.take (if M.kind = 0 then M.np else M.np + 1)).reverse h = true) then some ((st.take (if M.kind = 0 then M.np else M.np + 1)).reverse, st.drop (if M.kind = 0 then M.np else M.np + 1)) else none
def xcp (xs ys : List Int32) (sp dp n : Nat) : List Int32 := ys.take dp ++ ((xs.drop sp).take n ++ ys.drop (dp + n))
/-- what the JDK does: 0 Object's constructor, 1 arraycopy, 2 and 3 abs, 4 max, 5 min -/
def xbt (a : Nat) (st : List Value) (h : xH) : xQ := match a with
  | 0 => (match st with
    | .ref _ :: r => if xcw r ≤ 8 then some (r, h) else none
    | _ => none)
  | 1 => (match st with
    | .int n :: .int dp :: .ref d :: .int sp :: .ref o :: r => (match h[o]?, h[d]? with
      | some (.inr (.inl (0, xs))), some (.inr (.inl (0, ys))) => if xcw r ≤ 8 ∧ 13 ≤ d ∧ ¬ sp < 0 ∧ ¬ dp < 0 ∧ ¬ n < 0 ∧ sp.toNatClampNeg + n.toNatClampNeg ≤ xs.length ∧ dp.toNatClampNeg + n.toNatClampNeg ≤ ys.length then some (r, h.set d (.inr (.inl (0, xcp xs ys sp.toNatClampNeg dp.toNatClampNeg n.toNatClampNeg)))) else none
      | _, _ => none)
    | _ => none)
  | 2 => (match st with
    | .int x :: r => if xcw r ≤ 8 then some (.int (if 0 ≤ x then x else 0 - x) :: r, h) else none
    | _ => none)
  | 3 => (match st with
    | .long x :: r => if xcw r ≤ 8 then some (.long (if 0 < x then x else -x) :: r, h) else none
    | _ => none)
  | 4 => (match st with
    | .int y :: .int x :: r => if xcw r ≤ 8 then some (.int (if x < y then y else x) :: r, h) else none
    | _ => none)
  | 5 => (match st with
    | .int y :: .int x :: r => if xcw r ≤ 8 then some (.int (if y < x then y else x) :: r, h) else none
    | _ => none)
  | _ => none
def xend (st : List Value) (h : xH) : Instr → xR
  | .ireturn => (match st with
    | [.int v] => some (some (.int v), h)
    | _ => none)
  | .lreturn => (match st with
    | [.long v] => some (some (.long v), h)
    | _ => none)
  | .return_ => (match st with
    | [] => some (none, h)
    | _ => none)
  | _ => none
def xisc : Instr → Bool
  | .invokevirtual _ => true
  | .invokestatic _ => true
  | .invokespecial _ => true
  | _ => false
/-- the instructions of one method, one behind the other; call: what a callee does -/
def xrun (ft : List (List FieldType)) (P : List xM) (call : Nat → List Value → xH → xR) (cd : List xI) : Nat → Nat → xL → List Value → xH → xR
  | 0, _, _, _, _ => none
  | f + 1, i, ls, st, h => match cd[i]? with
    | none => none
    | some q => match xps i q.2.2.2.1 q.2.2.2.2 ls st q.2.1 with
      | some n => xrun ft P call cd f n.1 n.2.1 n.2.2 h
      | none => match xhs ft q.2.2.2.1 q.2.2.2.2 st h q.2.1 with
        | some n => xrun ft P call cd f (i + 1) ls n.1 n.2
        | none => match xisc q.2.1 with
          | false => xend st h q.2.1
          | true => match q.2.2.2.2 with
            | [] => (match xca P q.2.2.2.1 st h with
              | none => none
              | some c => match call q.2.2.2.1 c.1 h with
                | none => none
                | some r => xrun ft P call cd f (i + 1) ls (r.1.toList ++ c.2) r.2)
            | _ => (match xbt q.2.2.2.1 st h with
              | none => none
              | some n => xrun ft P call cd f (i + 1) ls n.1 n.2)
def xes : List Value → xL
  | [] => []
  | v :: vs => if v.category = 2 then some v :: none :: xes vs else some v :: xes vs
def xent (n : Nat) (as : List Value) : xL := xes as ++ List.replicate (n - (xes as).length) none
def xrok : Option FieldType → Option Value → Bool
  | none, none => true
  | some .int, some (.int _) => true
  | some .boolean, some (.int v) => v &&& 1 == v
  | some .byte, some (.int v) => (narrow .byte (.int v) == .int v)
  | some .char, some (.int v) => (narrow .char (.int v) == .int v)
  | some .long, some (.long _) => true
  | _, _ => false
/-- a method, with so many calls open in one another, each of so many steps -/
def xex (ft : List (List FieldType)) (P : List xM) (F : Nat) : Nat → Nat → List Value → xH → xR
  | 0, _, _, _ => none
  | d + 1, k, as, h => match P[k]? with
    | none => none
    | some M => if (xes as).length ≤ M.maxL then match xrun ft P (xex ft P F d) M.cd F 0 (xent M.maxL as) [] h with
      | none => none
      | some r => if xrok M.ret r.1 then some r else none else none

/-! what the tables must say -/
def xBt (Ts : List Jvm.Cond) (own : String) (ix : Nat) : Nat → Prop
  | 0 => False
  | 1 => Jvm.Cond.methodLink own ix arraycopyName ∈ Ts ∧ Jvm.Cond.native arraycopyName ∈ Ts ∧ Jvm.Cond.static arraycopyName ∈ Ts ∧ Jvm.Cond.initialized "java/lang/System" ∈ Ts
  | 2 => Jvm.Cond.methodLink own ix Lib.Math.abs.name ∈ Ts ∧ Jvm.Cond.static Lib.Math.abs.name ∈ Ts ∧ Jvm.Cond.initialized "java/lang/Math" ∈ Ts ∧ Jvm.Cond.code Lib.Math.abs.name Lib.Math.abs.code 1 (some .int) ∈ Ts
  | 3 => Jvm.Cond.methodLink own ix Lib.MathLoose.abs_long.x ∈ Ts ∧ Jvm.Cond.static Lib.MathLoose.abs_long.x ∈ Ts ∧ Jvm.Cond.initialized "java/lang/Math" ∈ Ts ∧ Jvm.Cond.code Lib.MathLoose.abs_long.x Lib.MathLoose.abs_long.code 2 (some .long) ∈ Ts
  | 4 => Jvm.Cond.methodLink own ix Lib.Math.max.name ∈ Ts ∧ Jvm.Cond.static Lib.Math.max.name ∈ Ts ∧ Jvm.Cond.initialized "java/lang/Math" ∈ Ts ∧ Jvm.Cond.code Lib.Math.max.name Lib.Math.max.code 2 (some .int) ∈ Ts
  | 5 => Jvm.Cond.methodLink own ix Lib.Math.min.name ∈ Ts ∧ Jvm.Cond.static Lib.Math.min.name ∈ Ts ∧ Jvm.Cond.initialized "java/lang/Math" ∈ Ts ∧ Jvm.Cond.code Lib.Math.min.name Lib.Math.min.code 2 (some .int) ∈ Ts
  | _ => True
/-- links to private constructors of a nest mate: class, number, constructor, host -/
abbrev xNs : Type := List (String × Nat × MethodName × String)
def xN (Ns : xNs) (U : State) : Prop := (∀ q ∈ Ns, va_Nw (.methodLinkNest q.1 q.2.1 q.2.2.1 q.2.2.2) U) ∧ xAO U
def xCSite (Ts : List Jvm.Cond) (Ns : xNs) (P : List xM) (own : String) (a : Nat) (tg : List Nat) : Instr → Prop
  | .invokevirtual ix => (tg = [] ∧ ∃ M, P[a]? = some M ∧ M.kind = 1 ∧ Jvm.Cond.methodLink own ix M.y ∈ Ts) ∨ (¬ tg = [] ∧ 6 ≤ a)
  | .invokestatic ix => (tg = [] ∧ ∃ M, P[a]? = some M ∧ M.kind = 0 ∧ Jvm.Cond.methodLink own ix M.y ∈ Ts) ∨ (¬ tg = [] ∧ xBt Ts own ix a)
  | .invokespecial ix => (tg = [] ∧ ∃ M, P[a]? = some M ∧ M.kind = 2 ∧ (Jvm.Cond.methodLink own ix M.y ∈ Ts ∨ ∃ host, (own, ix, M.y, host) ∈ Ns)) ∨ (¬ tg = [] ∧ a = 0 ∧ Jvm.Cond.methodLink own ix Lib.objectInit ∈ Ts ∧ Jvm.Cond.instanceMethod Lib.objectInit ∈ Ts ∧ Jvm.Cond.code Lib.objectInit ⟨#[0xb1]⟩ 1 none ∈ Ts)
  | _ => True
/-- of a method's instructions -/
def xCdOk (Ts : List Jvm.Cond) (Rs : xRs) (Ns : xNs) (cl : List vw_C) (P : List xM) (own : String) (ini : Bool) (bytes : ByteArray) (cd : List xI) : Prop :=
  xpc cd 0 0 ∧ xseq cd = true ∧ (∀ q ∈ cd, decode bytes q.1 = .ok (q.2.1, q.2.2.1)) ∧ (∀ q ∈ cd, xbr cd q = true) ∧ (∀ q ∈ cd, xlen q.2.1 = 0 ∨ xlen q.2.1 = q.2.2.1) ∧ (∀ q ∈ cd, xSite Ts Rs cl own ini q.2.2.2.1 q.2.2.2.2 q.2.1) ∧ (∀ q ∈ cd, xCSite Ts Ns P own q.2.2.2.1 q.2.2.2.2 q.2.1)
/-- of a method, as one that is called -/
def xMOk (Ts : List Jvm.Cond) (cl : List vw_C) (M : xM) : Prop :=
  plainFor M.y = true ∧ Jvm.Cond.code M.y M.bytes M.maxL M.ret ∈ Ts ∧ Jvm.Cond.initialized M.y.cls ∈ Ts ∧ (M.y.cls ≠ "java/lang/invoke/MethodHandle" ∧ M.y.cls ≠ "java/lang/invoke/VarHandle" ∧ (parseMethodDescriptor M.y.desc).map (fun d => d.parameters.length) = some M.np) ∧ M.maxL ≤ 40 ∧
    (M.kind = 0 → Jvm.Cond.static M.y ∈ Ts) ∧ (¬ M.kind = 0 → Jvm.Cond.instanceMethod M.y ∈ Ts ∧ ((∃ r : vw_C, cl[M.ci]? = some r ∧ r.1 = M.y.cls) ∨ (M.ci = 1000 ∧ M.y.cls = "java/lang/String"))) ∧ (M.kind = 1 → Jvm.Cond.selects M.y.cls M.y M.y ∈ Ts) ∧ (M.kind = 2 → M.y.name = "<init>" ∧ M.ret = none)
def xPOk (Ts : List Jvm.Cond) (Rs : xRs) (Ns : xNs) (cl : List vw_C) (P : List xM) : Prop := ∀ (k : Nat) (M : xM), P[k]? = some M → xMOk Ts cl M ∧ xCdOk Ts Rs Ns cl P M.y.cls (decide (M.kind = 2)) M.bytes M.cd
def xrm (d mc ms : Nat) : Room := { frames := d, cells := mc, slots := ms, locals := 64 * d }
def xK (Rs : xRs) (ad : Nat → Nat) (U : State) : Prop := ∀ q ∈ Rs, vk_R q.1 q.2.1 q.2.2.1 (ad q.2.2.2) U
def xPc (Rs : xRs) (Ns : xNs) (D : va_G) (cl : List vw_C) (ad : Nat → Nat) (z : Nat) (as : List Value) (h : xH) : Array Value → State → Prop := fun a U => a = (as.map (xsh ad)).toArray ∧ xW D cl ad z U h U.heap ∧ va_K D cl [] U ∧ xN Ns U ∧ xK Rs ad U
def xQc (D : va_G) (cl : List vw_C) (ad : Nat → Nat) (z : Nat) (r : Option Value) (h' : xH) : Array Value → State → Outcome → State → Prop := fun _ st o t => o = .returned (r.map (xsh ad)) ∧ xW D cl ad z t h' t.heap ∧ va_F (fun q => z ≤ q) st t
/-- what is owed for a callee -/
def xMet (Ts : List Jvm.Cond) (Rs : xRs) (Ns : xNs) (cl : List vw_C) (l : Launch) (d : Nat) (M : xM) (as : List Value) (h : xH) (r : Option Value) (h' : xH) : Prop :=
  h.length ≤ h'.length ∧ xsz h ≤ xsz h' ∧ ∀ (D : va_G) (ad : Nat → Nat) (z : Nat), Met l M.y (Jvm.Cond.code M.y M.bytes M.maxL M.ret :: Ts) (xrm d (h'.length - h.length) (xsz h' - xsz h)) (xPc Rs Ns D cl ad z as h) (xQc D cl ad z r h') (h'.length - h.length) (xsz h' - xsz h) (fun q => z ≤ q)
theorem xPc_blind (Rs : xRs) (Ns : xNs) (D : va_G) (cl : List vw_C) (ad : Nat → Nat) (z : Nat) (as : List Value) (h : xH) : FrameBlind (xPc Rs Ns D cl ad z as h) := by
  intro a U g mk hq
  obtain ⟨q1, q2, q3, q4, q5⟩ := hq
  exact ⟨q1, xW.moved (u := U.calling g mk a) q2 (Vm.Alike.refl U.vm), va_K.moved (u := U) (U := U.calling g mk a) (Vm.Alike.refl U.vm) q3, ⟨fun x hx => va_Nw.same (u := U) (U := U.calling g mk a) rfl rfl (q4.1 x hx), xAO.moved (s := U) (U := U.calling g mk a) (Vm.Alike.refl U.vm) q4.2⟩, fun x hx => vk_R.same (u := U) (U := U.calling g mk a) rfl (q5 x hx)⟩
theorem xes_args (ad : Nat → Nat) : ∀ (as : List Value) (o i : Nat) (v : Value), (xes as)[i]? = some (some v) → (o + i, xsh ad v) ∈ lv_args o (as.map (xsh ad))
  | [], o, i, v, h => by simp [xes] at h
  | w :: as, o, i, v, h => by
    simp only [xes] at h
    show (o + i, xsh ad v) ∈ (o, xsh ad w) :: lv_args (if (xsh ad w).category = 2 then o + 2 else o + 1) (as.map (xsh ad))
    rw [xsh_cat]
    by_cases hc : w.category = 2
    · rw [if_pos hc] at h ⊢
      match i, h with
      | 0, h =>
        simp at h
        subst h
        exact List.mem_cons_self
      | 1, h => simp at h
      | i + 2, h =>
        simp at h
        have := xes_args ad as (o + 2) i v h
        refine List.mem_cons_of_mem _ ?_
        rw [show o + (i + 2) = o + 2 + i by omega]
        exact this
    · rw [if_neg hc] at h ⊢
      match i, h with
      | 0, h =>
        simp at h
        subst h
        exact List.mem_cons_self
      | i + 1, h =>
        simp at h
        have := xes_args ad as (o + 1) i v h
        refine List.mem_cons_of_mem _ ?_
        rw [show o + (i + 1) = o + 1 + i by omega]
        exact this
theorem xes_len (ad : Nat → Nat) : ∀ as : List Value, (lg_sl (as.map (xsh ad))).length = (xes as).length
  | [] => rfl
  | w :: as => by
    have ih := xes_len ad as
    unfold lg_sl at ih ⊢
    rw [List.map_cons, List.flatMap_cons, List.length_append, ih, xsh_cat]
    simp only [xes]
    by_cases hc : w.category = 2
    · rw [if_pos hc, if_pos hc]
      simp
      omega
    · rw [if_neg hc, if_neg hc]
      simp
      omega
theorem xent_LH (ad : Nat → Nat) (as : List Value) {n : Nat} (h : (xes as).length ≤ n) (m : MethodId) : ∃ ls : Array Slot, entryFrame m (as.map (xsh ad)).toArray n = F0 m 0 ls [] ∧ xLH ad n (xent n as) ls := by
  refine ⟨_, lg_entry_eq m (as.map (xsh ad)) n, by simp [xent]; omega, _, lv_entry _ (by rw [xes_len]; exact h), fun i v hi => ?_⟩
  unfold xent at hi
  by_cases hl : i < (xes as).length
  · rw [List.getElem?_append_left hl] at hi
    have := xes_args ad as 0 i v hi
    rwa [Nat.zero_add] at this
  · rw [List.getElem?_append_right (by omega)] at hi
    rw [List.getElem?_replicate] at hi
    split at hi <;> cases hi

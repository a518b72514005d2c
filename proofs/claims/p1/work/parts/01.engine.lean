/-! ===== THE ENGINE: an interpreter of the instructions that this program uses, over a heap of its own (cells numbered in the order of their making) ===== -/
/-- a cell: an object (number of its class, its fields), a row of ints (0) or bytes (1), a row of longs, a row of references -/
abbrev xC : Type := (Nat × List Value) ⊕ ((Nat × List Int32) ⊕ (List Int64 ⊕ List Nat))
abbrev xH : Type := List xC
abbrev xL : Type := List (Option Value)
/-- an instruction: its place, what it is, its length, a number (target, field, callee), numbers (a switch's targets; the class) -/
abbrev xI : Type := Nat × Instr × Nat × Nat × List Nat
abbrev xS : Type := Option (Nat × xL × List Value)

def xset1 (ls : xL) (i : Nat) (v : Value) : xL :=
  match i with
  | 0 => ls.set 0 (some v)
  | j + 1 => (match ls[j]? with
    | some (some w) => if w.category = 2 then ls.set j none else ls
    | _ => ls).set (j + 1) (some v)
def xset2 (ls : xL) (i : Nat) (v : Value) : xL := (xset1 ls i v).set (i + 1) none

def xldi (i : Nat) (ls : xL) (st : List Value) (k : Nat) : xS := match ls[k]? with
  | some (some (.int x)) => some (i + 1, ls, .int x :: st)
  | _ => none
def xldl (i : Nat) (ls : xL) (st : List Value) (k : Nat) : xS := match ls[k]? with
  | some (some (.long x)) => some (i + 1, ls, .long x :: st)
  | _ => none
def xlda (i : Nat) (ls : xL) (st : List Value) (k : Nat) : xS := match ls[k]? with
  | some (some (.ref x)) => some (i + 1, ls, .ref x :: st)
  | _ => none
def xsti (i : Nat) (ls : xL) (st : List Value) (k : Nat) : xS := match st with
  | .int x :: r => if k < ls.length then some (i + 1, xset1 ls k (.int x), r) else none
  | _ => none
def xsta (i : Nat) (ls : xL) (st : List Value) (k : Nat) : xS := match st with
  | .ref x :: r => if k < ls.length then some (i + 1, xset1 ls k (.ref x), r) else none
  | _ => none
def xstl (i : Nat) (ls : xL) (st : List Value) (k : Nat) : xS := match st with
  | .long x :: r => if k + 1 < ls.length then some (i + 1, xset2 ls k (.long x), r) else none
  | _ => none
def xinc (i : Nat) (ls : xL) (st : List Value) (k : Nat) (n : Int32) : xS := match ls[k]? with
  | some (some (.int x)) => if k < ls.length then some (i + 1, xset1 ls k (.int (x + n)), st) else none
  | _ => none
def xbi (i : Nat) (ls : xL) (st : List Value) (f : Int32 → Int32 → Int32) : xS := match st with
  | .int y :: .int x :: r => some (i + 1, ls, .int (f x y) :: r)
  | _ => none
def xdi (i : Nat) (ls : xL) (st : List Value) (f : Int32 → Int32 → Int32) : xS := match st with
  | .int y :: .int x :: r => if y = 0 then none else some (i + 1, ls, .int (f x y) :: r)
  | _ => none
def xui (i : Nat) (ls : xL) (st : List Value) (f : Int32 → Int32) : xS := match st with
  | .int x :: r => some (i + 1, ls, .int (f x) :: r)
  | _ => none
def xbl (i : Nat) (ls : xL) (st : List Value) (f : Int64 → Int64 → Int64) : xS := match st with
  | .long y :: .long x :: r => some (i + 1, ls, .long (f x y) :: r)
  | _ => none
def xdl (i : Nat) (ls : xL) (st : List Value) (f : Int64 → Int64 → Int64) : xS := match st with
  | .long y :: .long x :: r => if y = 0 then none else some (i + 1, ls, .long (f x y) :: r)
  | _ => none
def xcl (i : Nat) (ls : xL) (st : List Value) : xS := match st with
  | .long y :: .long x :: r => some (i + 1, ls, .int (lg_cmp x y) :: r)
  | _ => none
def xul (i : Nat) (ls : xL) (st : List Value) (f : Int64 → Int64) : xS := match st with
  | .long x :: r => some (i + 1, ls, .long (f x) :: r)
  | _ => none
def xil (i : Nat) (ls : xL) (st : List Value) : xS := match st with
  | .int x :: r => some (i + 1, ls, .long x.toInt64 :: r)
  | _ => none
def xli (i : Nat) (ls : xL) (st : List Value) : xS := match st with
  | .long x :: r => some (i + 1, ls, .int x.toInt32 :: r)
  | _ => none
def xsl (i : Nat) (ls : xL) (st : List Value) : xS := match st with
  | .int y :: .long x :: r => some (i + 1, ls, .long (x <<< (y.toInt64 &&& 63)) :: r)
  | _ => none
def xdup (i : Nat) (ls : xL) (st : List Value) : xS := match st with
  | v :: r => if v.category = 1 then some (i + 1, ls, v :: v :: r) else none
  | _ => none
def xpop (i : Nat) (ls : xL) (st : List Value) : xS := match st with
  | v :: r => if v.category = 1 then some (i + 1, ls, r) else none
  | _ => none
def xpop2 (i : Nat) (ls : xL) (st : List Value) : xS := match st with
  | v :: r => if v.category = 2 then some (i + 1, ls, r) else none
  | _ => none
def xdup2 (i : Nat) (ls : xL) (st : List Value) : xS := match st with
  | v :: w :: r => if v.category = 1 ∧ w.category = 1 then some (i + 1, ls, v :: w :: v :: w :: r) else none
  | _ => none
def xif (i : Nat) (ls : xL) (st : List Value) (a : Nat) (c : Jvm.ClassFile.Cond) : xS := match st with
  | .int x :: r => match c with
    | .eq => if x = 0 then some (a, ls, r) else some (i + 1, ls, r)
    | .ne => if x = 0 then some (i + 1, ls, r) else some (a, ls, r)
    | .lt => if x < 0 then some (a, ls, r) else some (i + 1, ls, r)
    | .ge => if 0 ≤ x then some (a, ls, r) else some (i + 1, ls, r)
    | .gt => if 0 < x then some (a, ls, r) else some (i + 1, ls, r)
    | .le => if x ≤ 0 then some (a, ls, r) else some (i + 1, ls, r)
  | _ => none
def xic (i : Nat) (ls : xL) (st : List Value) (a : Nat) (c : Jvm.ClassFile.Cond) : xS := match st with
  | .int y :: .int x :: r => match c with
    | .eq => if x = y then some (a, ls, r) else some (i + 1, ls, r)
    | .ne => if x = y then some (i + 1, ls, r) else some (a, ls, r)
    | .lt => if x < y then some (a, ls, r) else some (i + 1, ls, r)
    | .ge => if y ≤ x then some (a, ls, r) else some (i + 1, ls, r)
    | .gt => if y < x then some (a, ls, r) else some (i + 1, ls, r)
    | .le => if x ≤ y then some (a, ls, r) else some (i + 1, ls, r)
  | _ => none
def xsw (ls : xL) (st : List Value) (a : Nat) (tg : List Nat) (lo hi : Int) : xS := match st with
  | .int x :: r => if x.toInt < lo then some (a, ls, r) else if hi < x.toInt then some (a, ls, r) else match tg[(x.toInt - lo).toNat]? with
    | some t => some (t, ls, r)
    | none => none
  | _ => none
/-- an instruction that asks neither heap nor tables -/
def xps (i a : Nat) (tg : List Nat) (ls : xL) (st : List Value) : Instr → xS
  | .iconst n => some (i + 1, ls, .int (Int32.ofInt n) :: st)
  | .bipush n => some (i + 1, ls, .int (Int8.ofInt n).toInt32 :: st)
  | .sipush n => some (i + 1, ls, .int (Int16.ofInt n).toInt32 :: st)
  | .lconst n => some (i + 1, ls, .long (Int64.ofNat (n : Nat)) :: st)
  | .iload k => xldi i ls st k
  | .iload_n k => xldi i ls st (k : Nat)
  | .lload k => xldl i ls st k
  | .lload_n k => xldl i ls st (k : Nat)
  | .aload k => xlda i ls st k
  | .aload_n k => xlda i ls st (k : Nat)
  | .istore k => xsti i ls st k
  | .istore_n k => xsti i ls st (k : Nat)
  | .lstore k => xstl i ls st k
  | .lstore_n k => xstl i ls st (k : Nat)
  | .astore k => xsta i ls st k
  | .astore_n k => xsta i ls st (k : Nat)
  | .iinc k n => xinc i ls st k (Int32.ofInt n)
  | .iadd => xbi i ls st (fun x y => x + y)
  | .isub => xbi i ls st (fun x y => x - y)
  | .imul => xbi i ls st (fun x y => x * y)
  | .iand => xbi i ls st (fun x y => x &&& y)
  | .ior => xbi i ls st (fun x y => x ||| y)
  | .ixor => xbi i ls st (fun x y => x ^^^ y)
  | .ishl => xbi i ls st (fun x y => x <<< (y &&& 31))
  | .ishr => xbi i ls st (fun x y => x >>> (y &&& 31))
  | .iushr => xbi i ls st (fun x y => (x.toUInt32 >>> (y.toUInt32 &&& Int32.toUInt32 31)).toInt32)
  | .idiv => xdi i ls st (fun x y => x / y)
  | .irem => xdi i ls st (fun x y => x - x / y * y)
  | .ineg => xui i ls st (fun x => -x)
  | .i2b => xui i ls st (fun x => x.toInt8.toInt32)
  | .i2c => xui i ls st (fun x => (x.toUInt32 % 65536).toInt32)
  | .ladd => xbl i ls st (fun x y => x + y)
  | .lsub => xbl i ls st (fun x y => x - y)
  | .lmul => xbl i ls st (fun x y => x * y)
  | .land => xbl i ls st (fun x y => x &&& y)
  | .ldiv => xdl i ls st (fun x y => x / y)
  | .lrem => xdl i ls st (fun x y => x - x / y * y)
  | .lneg => xul i ls st (fun x => -x)
  | .lcmp => xcl i ls st
  | .lshl => xsl i ls st
  | .i2l => xil i ls st
  | .l2i => xli i ls st
  | .dup => xdup i ls st
  | .pop => xpop i ls st
  | .pop2 => xpop2 i ls st
  | .dup2 => xdup2 i ls st
  | .ifCond c _ => xif i ls st a c
  | .if_icmp c _ => xic i ls st a c
  | .goto _ => some (a, ls, st)
  | .tableswitch _ lo hi _ => xsw ls st a tg lo hi
  | _ => none
/-- the length of an instruction (0: not told here) -/
def xlen : Instr → Nat
  | .iconst _ | .lconst _ | .iload_n _ | .lload_n _ | .aload_n _ | .istore_n _ | .lstore_n _ | .astore_n _ | .iadd | .isub | .imul | .iand | .ior | .ixor | .ishl | .ishr | .iushr | .idiv | .irem | .ineg | .i2b | .i2c | .ladd | .lsub | .lmul | .land | .ldiv | .lrem | .lneg | .lcmp | .lshl | .i2l | .l2i | .dup | .dup2 | .pop | .pop2 => 1
  | .iaload | .laload | .baload | .aaload | .iastore | .lastore | .bastore | .arraylength | .ireturn | .lreturn | .return_ => 1
  | .bipush _ | .iload _ | .lload _ | .aload _ | .istore _ | .lstore _ | .astore _ | .ldc _ | .newarray _ => 2
  | .sipush _ | .iinc _ _ | .ifCond _ _ | .if_icmp _ _ | .goto _ | .getfield _ | .getstatic _ | .putfield _ | .new _ | .invokevirtual _ | .invokestatic _ | .invokespecial _ | .ldc_w _ | .ldc2_w _ => 3
  | .multianewarray _ _ => 4
  | _ => 0
/-- the targets are where the offsets lead -/
def xto (cd : List xI) (pc : Nat) (off : Int) (a : Nat) : Bool := match cd[a]? with
  | some q => decide ((pc : Int) + off = (q.1 : Int))
  | none => false
def xbr (cd : List xI) (q : xI) : Bool := match q.2.1 with
  | .ifCond _ off => xto cd q.1 off q.2.2.2.1
  | .if_icmp _ off => xto cd q.1 off q.2.2.2.1
  | .goto off => xto cd q.1 off q.2.2.2.1
  | .tableswitch d _ _ offs => xto cd q.1 d q.2.2.2.1 && decide (q.2.2.2.2.length = offs.toList.length) && (offs.toList.zip q.2.2.2.2).all (fun z => xto cd q.1 z.1 z.2)
  | _ => true
def xseq : List xI → Bool
  | q :: r => (match r with
    | q' :: _ => decide (q'.1 = q.1 + q.2.2.1)
    | [] => true) && xseq r
  | [] => true
def xpc (cd : List xI) (i pc : Nat) : Prop := ∀ q, cd[i]? = some q → q.1 = pc
theorem xseq_at : ∀ {cd : List xI}, xseq cd = true → ∀ {i : Nat} {q : xI}, cd[i]? = some q → xpc cd (i + 1) (q.1 + q.2.2.1)
  | [], _, _, _, h => by simp at h
  | q0 :: r, hs, i, q, h => by
    intro q' h'
    simp only [xseq, Bool.and_eq_true] at hs
    cases i with
    | zero =>
      simp at h h'
      subst h
      cases r with
      | nil => simp at h'
      | cons q1 r1 =>
        simp at h'
        subst h'
        simpa using hs.1
    | succ j =>
      simp at h h'
      exact xseq_at hs.2 h q' h'
theorem xto_at {cd : List xI} {pc a : Nat} {off : Int} (h : xto cd pc off a = true) : ∃ t : Nat, (pc : Int) + off = (t : Int) ∧ xpc cd a t := by
  unfold xto at h
  split at h
  · rename_i q hq
    refine ⟨q.1, of_decide_eq_true h, fun q' h' => ?_⟩
    rw [hq] at h'
    cases h'
    rfl
  · cases h
/-- values, moved to where the cells really lie -/
def xsh (ad : Nat → Nat) : Value → Value
  | .ref k => .ref (ad k)
  | .retAddr _ => (match ad 2000000 with
    | 0 => .null
    | n + 1 => .ref n)
  | v => v
theorem xsh_cat (ad : Nat → Nat) (v : Value) : (xsh ad v).category = v.category := by
  cases v <;> try rfl
  show (match ad 2000000 with
    | 0 => Value.null
    | n + 1 => .ref n).category = 1
  cases ad 2000000 <;> rfl
/-- the locals held -/
def xLH (ad : Nat → Nat) (nL : Nat) (lv : xL) (ls : Array Slot) : Prop := lv.length = nL ∧ ∃ l, lv_has ls nL l ∧ ∀ (i : Nat) (v : Value), lv[i]? = some (some v) → (i, xsh ad v) ∈ l
theorem xLH.get {ad : Nat → Nat} {nL : Nat} {lv : xL} {ls : Array Slot} (h : xLH ad nL lv ls) {i : Nat} {v : Value} (hi : lv[i]? = some (some v)) : ls[i]? = some (.val (xsh ad v)) := by
  obtain ⟨-, l, h1, h2⟩ := h
  exact h1.2.2 (i, xsh ad v) (h2 i v hi)
theorem xset1_len (ls : xL) (i : Nat) (v : Value) : (xset1 ls i v).length = ls.length := by
  cases i with
  | zero => simp [xset1]
  | succ j =>
    simp only [xset1, List.length_set]
    split
    · split <;> simp
    · rfl
theorem xset1_get {ls : xL} {i j : Nat} {v w : Value} (h : (xset1 ls i v)[j]? = some (some w)) : (j = i ∧ w = v) ∨ (j ≠ i ∧ ls[j]? = some (some w) ∧ ¬ (j + 1 = i ∧ w.category = 2)) := by
  by_cases hj : j = i
  · subst hj
    left
    refine ⟨rfl, ?_⟩
    cases j with
    | zero =>
      simp only [xset1] at h
      by_cases hl : 0 < ls.length
      · rw [List.getElem?_set_self hl] at h
        cases h
        rfl
      · rw [List.getElem?_eq_none (by rw [List.length_set]; omega)] at h
        cases h
    | succ j =>
      simp only [xset1] at h
      generalize hz : (match ls[j]? with
        | some (some w) => if w.category = 2 then ls.set j none else ls
        | _ => ls) = z at h
      by_cases hl : j + 1 < z.length
      · rw [List.getElem?_set_self hl] at h
        cases h
        rfl
      · rw [List.getElem?_eq_none (by rw [List.length_set]; exact Nat.le_of_not_lt hl)] at h
        cases h
  · right
    refine ⟨hj, ?_⟩
    cases i with
    | zero =>
      simp only [xset1] at h
      rw [List.getElem?_set_ne (Ne.symm hj)] at h
      exact ⟨h, fun q => by omega⟩
    | succ k =>
      simp only [xset1] at h
      rw [List.getElem?_set_ne (Ne.symm hj)] at h
      by_cases hk : j = k
      · subst hk
        cases ho : ls[j]? with
        | none =>
          rw [ho] at h
          simp only at h
          rw [ho] at h
          cases h
        | some o =>
          cases o with
          | none =>
            rw [ho] at h
            simp only at h
            rw [ho] at h
            cases h
          | some u =>
            rw [ho] at h
            simp only at h
            by_cases hu : u.category = 2
            · rw [if_pos hu] at h
              have hl : j < ls.length := (List.getElem?_eq_some_iff.mp ho).1
              rw [List.getElem?_set_self hl] at h
              cases h
            · rw [if_neg hu, ho] at h
              cases h
              exact ⟨rfl, fun q => hu q.2⟩
      · refine ⟨?_, fun q => hk (by omega)⟩
        split at h
        · split at h
          · rwa [List.getElem?_set_ne (fun q => hk q.symm)] at h
          · exact h
        · exact h
theorem xLH.set1 {ad : Nat → Nat} {nL : Nat} {lv : xL} {l : List (Nat × Value)} {i : Nat} {v : Value} (h0 : lv.length = nL) (h2 : ∀ (i : Nat) (v : Value), lv[i]? = some (some v) → (i, xsh ad v) ∈ l) {ls' : Array Slot} (h' : lv_has ls' nL ((i, xsh ad v) :: l.filter (fun q => !(q.1 == i) && !(q.1 + 1 == i && q.2.category == 2)))) : xLH ad nL (xset1 lv i v) ls' := by
  refine ⟨by rw [xset1_len]; exact h0, _, h', fun j w hw => ?_⟩
  rcases xset1_get hw with ⟨rfl, rfl⟩ | ⟨h1, h3, h4⟩
  · exact List.mem_cons_self
  · refine List.mem_cons_of_mem _ (List.mem_filter.mpr ⟨h2 j w h3, ?_⟩)
    rw [Bool.and_eq_true]
    refine ⟨by simpa using h1, ?_⟩
    rw [xsh_cat]
    by_cases hz : j + 1 = i
    · have : ¬ w.category = 2 := fun q => h4 ⟨hz, q⟩
      simp [this]
    · simp [hz]
theorem xLH.set2 {ad : Nat → Nat} {nL : Nat} {lv : xL} {l : List (Nat × Value)} {i : Nat} {v : Value} (h0 : lv.length = nL) (h2 : ∀ (i : Nat) (v : Value), lv[i]? = some (some v) → (i, xsh ad v) ∈ l) {ls' : Array Slot} (h' : lv_has ls' nL ((i, xsh ad v) :: l.filter (fun q => !(q.1 == i) && (!(q.1 == i + 1) && !(q.1 + 1 == i && q.2.category == 2))))) : xLH ad nL (xset2 lv i v) ls' := by
  refine ⟨by rw [xset2, List.length_set, xset1_len]; exact h0, _, h', fun j w hw => ?_⟩
  have hne : j ≠ i + 1 := by
    intro e
    subst e
    rw [xset2] at hw
    by_cases hl : i + 1 < (xset1 lv i v).length
    · rw [List.getElem?_set_self hl] at hw
      cases hw
    · rw [List.getElem?_eq_none (by rw [List.length_set]; omega)] at hw
      cases hw
  rw [xset2, List.getElem?_set_ne (Ne.symm hne)] at hw
  rcases xset1_get hw with ⟨rfl, rfl⟩ | ⟨h1, h3, h4⟩
  · exact List.mem_cons_self
  · refine List.mem_cons_of_mem _ (List.mem_filter.mpr ⟨h2 j w h3, ?_⟩)
    rw [Bool.and_eq_true, Bool.and_eq_true]
    refine ⟨by simpa using h1, by simpa using hne, ?_⟩
    rw [xsh_cat]
    by_cases hz : j + 1 = i
    · have : ¬ w.category = 2 := fun q => h4 ⟨hz, q⟩
      simp [this]
    · simp [hz]

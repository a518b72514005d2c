/-! ===== the engine over what is known of numbers: an int exactly, or that it lies between two ===== -/
abbrev aV : Type := Value ⊕ (Int32 × Int32)
abbrev aN : Type := Int32 ⊕ (Int32 × Int32)
abbrev aC : Type := (Nat × List aV) ⊕ ((Nat × List aN) ⊕ (List Int64 ⊕ List Nat))
abbrev aH : Type := List aC
abbrev aL : Type := List (Option aV)
abbrev aS : Type := Option (Nat × aL × List aV)
abbrev aQ : Type := Option (List aV × aH)
abbrev aR : Type := Option (Option aV × aH)
def aTop : Int32 × Int32 := (-2147483648, 2147483647)
def acat : aV → Nat
  | .inl v => v.category
  | .inr _ => 1
def aset1 (ls : aL) (i : Nat) (v : aV) : aL :=
  match i with
  | 0 => ls.set 0 (some v)
  | j + 1 => (match ls[j]? with
    | some (some w) => if acat w = 2 then ls.set j none else ls
    | _ => ls).set (j + 1) (some v)
def aset2 (ls : aL) (i : Nat) (v : aV) : aL := (aset1 ls i v).set (i + 1) none
def aldi (i : Nat) (ls : aL) (st : List aV) (k : Nat) : aS := match ls[k]? with
  | some (some (.inl (.int x))) => some (i + 1, ls, .inl (.int x) :: st)
  | some (some (.inr p)) => some (i + 1, ls, .inr p :: st)
  | _ => none
def aldl (i : Nat) (ls : aL) (st : List aV) (k : Nat) : aS := match ls[k]? with
  | some (some (.inl (.long x))) => some (i + 1, ls, .inl (.long x) :: st)
  | _ => none
def alda (i : Nat) (ls : aL) (st : List aV) (k : Nat) : aS := match ls[k]? with
  | some (some (.inl (.ref x))) => some (i + 1, ls, .inl (.ref x) :: st)
  | _ => none
def asti (i : Nat) (ls : aL) (st : List aV) (k : Nat) : aS := match st with
  | .inl (.int x) :: r => if k < ls.length then some (i + 1, aset1 ls k (.inl (.int x)), r) else none
  | .inr p :: r => if k < ls.length then some (i + 1, aset1 ls k (.inr p), r) else none
  | _ => none
def asta (i : Nat) (ls : aL) (st : List aV) (k : Nat) : aS := match st with
  | .inl (.ref x) :: r => if k < ls.length then some (i + 1, aset1 ls k (.inl (.ref x)), r) else none
  | _ => none
def astl (i : Nat) (ls : aL) (st : List aV) (k : Nat) : aS := match st with
  | .inl (.long x) :: r => if k + 1 < ls.length then some (i + 1, aset2 ls k (.inl (.long x)), r) else none
  | _ => none
def ainc (i : Nat) (ls : aL) (st : List aV) (k : Nat) (n : Int32) : aS := match ls[k]? with
  | some (some (.inl (.int x))) => if k < ls.length then some (i + 1, aset1 ls k (.inl (.int (x + n))), st) else none
  | _ => none
def abi (i : Nat) (ls : aL) (st : List aV) (f : Int32 → Int32 → Int32) : aS := match st with
  | .inl (.int y) :: .inl (.int x) :: r => some (i + 1, ls, .inl (.int (f x y)) :: r)
  | .inl (.int _) :: .inr _ :: r => some (i + 1, ls, .inr aTop :: r)
  | .inr _ :: .inl (.int _) :: r => some (i + 1, ls, .inr aTop :: r)
  | .inr _ :: .inr _ :: r => some (i + 1, ls, .inr aTop :: r)
  | _ => none
/-- and with what is known of the other side: below a mask; the last bit of one whose last bit is known; a product with 0 -/
def aan (i : Nat) (ls : aL) (st : List aV) : aS := match st with
  | .inl (.int y) :: .inr p :: r => if y = 1 ∧ ¬ p.1 ≤ p.2 then some (i + 1, ls, .inl (.int p.2) :: r) else if 0 ≤ y then some (i + 1, ls, .inr (0, y) :: r) else some (i + 1, ls, .inr aTop :: r)
  | _ => abi i ls st (fun x y => x &&& y)
def aml (i : Nat) (ls : aL) (st : List aV) : aS := match st with
  | .inl (.int y) :: .inr p :: r => if y = 0 then some (i + 1, ls, .inl (.int 0) :: r) else some (i + 1, ls, .inr aTop :: r)
  | .inr p :: .inl (.int x) :: r => if x = 0 then some (i + 1, ls, .inl (.int 0) :: r) else some (i + 1, ls, .inr aTop :: r)
  | _ => abi i ls st (fun x y => x * y)
def adi (i : Nat) (ls : aL) (st : List aV) (f : Int32 → Int32 → Int32) : aS := match st with
  | .inl (.int y) :: .inl (.int x) :: r => if y = 0 then none else some (i + 1, ls, .inl (.int (f x y)) :: r)
  | .inl (.int y) :: .inr _ :: r => if y = 0 then none else some (i + 1, ls, .inr aTop :: r)
  | _ => none
def aui (i : Nat) (ls : aL) (st : List aV) (f : Int32 → Int32) : aS := match st with
  | .inl (.int x) :: r => some (i + 1, ls, .inl (.int (f x)) :: r)
  | .inr _ :: r => some (i + 1, ls, .inr aTop :: r)
  | _ => none
def abl (i : Nat) (ls : aL) (st : List aV) (f : Int64 → Int64 → Int64) : aS := match st with
  | .inl (.long y) :: .inl (.long x) :: r => some (i + 1, ls, .inl (.long (f x y)) :: r)
  | _ => none
def adl (i : Nat) (ls : aL) (st : List aV) (f : Int64 → Int64 → Int64) : aS := match st with
  | .inl (.long y) :: .inl (.long x) :: r => if y = 0 then none else some (i + 1, ls, .inl (.long (f x y)) :: r)
  | _ => none
def acl (i : Nat) (ls : aL) (st : List aV) : aS := match st with
  | .inl (.long y) :: .inl (.long x) :: r => some (i + 1, ls, .inl (.int (lg_cmp x y)) :: r)
  | _ => none
def aul (i : Nat) (ls : aL) (st : List aV) (f : Int64 → Int64) : aS := match st with
  | .inl (.long x) :: r => some (i + 1, ls, .inl (.long (f x)) :: r)
  | _ => none
def ail (i : Nat) (ls : aL) (st : List aV) : aS := match st with
  | .inl (.int x) :: r => some (i + 1, ls, .inl (.long x.toInt64) :: r)
  | _ => none
def ali (i : Nat) (ls : aL) (st : List aV) : aS := match st with
  | .inl (.long x) :: r => some (i + 1, ls, .inl (.int x.toInt32) :: r)
  | _ => none
def asl (i : Nat) (ls : aL) (st : List aV) : aS := match st with
  | .inl (.int y) :: .inl (.long x) :: r => some (i + 1, ls, .inl (.long (x <<< (y.toInt64 &&& 63))) :: r)
  | _ => none
def adup (i : Nat) (ls : aL) (st : List aV) : aS := match st with
  | v :: r => if acat v = 1 then some (i + 1, ls, v :: v :: r) else none
  | _ => none
def apop (i : Nat) (ls : aL) (st : List aV) : aS := match st with
  | v :: r => if acat v = 1 then some (i + 1, ls, r) else none
  | _ => none
def apop2 (i : Nat) (ls : aL) (st : List aV) : aS := match st with
  | v :: r => if acat v = 2 then some (i + 1, ls, r) else none
  | _ => none
def adup2 (i : Nat) (ls : aL) (st : List aV) : aS := match st with
  | v :: w :: r => if acat v = 1 ∧ acat w = 1 then some (i + 1, ls, v :: w :: v :: w :: r) else none
  | _ => none
def aiv : aV → Option (Int32 × Int32)
  | .inl (.int x) => some (x, x)
  | .inr p => if p.1 ≤ p.2 then some p else none
  | _ => none
/-- whether x (between xl and xh) stands so to y (between yl and yh) -/
def acmp (c : Jvm.ClassFile.Cond) (x y : Int32 × Int32) : Option Bool := match c with
  | .eq => if x.1 = x.2 ∧ y.1 = y.2 ∧ x.1 = y.1 then some true else if x.2 < y.1 ∨ y.2 < x.1 then some false else none
  | .ne => if x.1 = x.2 ∧ y.1 = y.2 ∧ x.1 = y.1 then some false else if x.2 < y.1 ∨ y.2 < x.1 then some true else none
  | .lt => if x.2 < y.1 then some true else if y.2 ≤ x.1 then some false else none
  | .ge => if x.2 < y.1 then some false else if y.2 ≤ x.1 then some true else none
  | .gt => if y.2 < x.1 then some true else if x.2 ≤ y.1 then some false else none
  | .le => if y.2 < x.1 then some false else if x.2 ≤ y.1 then some true else none
def aic (i : Nat) (ls : aL) (st : List aV) (a : Nat) (c : Jvm.ClassFile.Cond) : aS := match st with
  | vy :: vx :: r => (match aiv vx, aiv vy with
    | some x, some y => (match acmp c x y with
      | some true => some (a, ls, r)
      | some false => some (i + 1, ls, r)
      | none => none)
    | _, _ => none)
  | _ => none
def aif (i : Nat) (ls : aL) (st : List aV) (a : Nat) (c : Jvm.ClassFile.Cond) : aS := match st with
  | vx :: r => (match aiv vx with
    | some x => (match acmp c x (0, 0) with
      | some true => some (a, ls, r)
      | some false => some (i + 1, ls, r)
      | none => none)
    | none => none)
  | _ => none
def asw (ls : aL) (st : List aV) (a : Nat) (tg : List Nat) (lo hi : Int) : aS := match st with
  | .inl (.int x) :: r => if x.toInt < lo then some (a, ls, r) else if hi < x.toInt then some (a, ls, r) else match tg[(x.toInt - lo).toNat]? with
    | some t => some (t, ls, r)
    | none => none
  | .inr p :: r => if p.1 ≤ p.2 ∧ (p.2.toInt < lo ∨ hi < p.1.toInt) then some (a, ls, r) else none
  | _ => none
def aps (i a : Nat) (tg : List Nat) (ls : aL) (st : List aV) : Instr → aS
  | .iconst n => some (i + 1, ls, .inl (.int (Int32.ofInt n)) :: st)
  | .bipush n => some (i + 1, ls, .inl (.int (Int8.ofInt n).toInt32) :: st)
  | .sipush n => some (i + 1, ls, .inl (.int (Int16.ofInt n).toInt32) :: st)
  | .lconst n => some (i + 1, ls, .inl (.long (Int64.ofNat (n : Nat))) :: st)
  | .iload k => aldi i ls st k
  | .iload_n k => aldi i ls st (k : Nat)
  | .lload k => aldl i ls st k
  | .lload_n k => aldl i ls st (k : Nat)
  | .aload k => alda i ls st k
  | .aload_n k => alda i ls st (k : Nat)
  | .istore k => asti i ls st k
  | .istore_n k => asti i ls st (k : Nat)
  | .lstore k => astl i ls st k
  | .lstore_n k => astl i ls st (k : Nat)
  | .astore k => asta i ls st k
  | .astore_n k => asta i ls st (k : Nat)
  | .iinc k n => ainc i ls st k (Int32.ofInt n)
  | .iadd => abi i ls st (fun x y => x + y)
  | .isub => abi i ls st (fun x y => x - y)
  | .imul => aml i ls st
  | .iand => aan i ls st
  | .ior => abi i ls st (fun x y => x ||| y)
  | .ixor => abi i ls st (fun x y => x ^^^ y)
  | .ishl => abi i ls st (fun x y => x <<< (y &&& 31))
  | .ishr => abi i ls st (fun x y => x >>> (y &&& 31))
  | .iushr => abi i ls st (fun x y => (x.toUInt32 >>> (y.toUInt32 &&& Int32.toUInt32 31)).toInt32)
  | .idiv => adi i ls st (fun x y => x / y)
  | .irem => adi i ls st (fun x y => x - x / y * y)
  | .ineg => aui i ls st (fun x => -x)
  | .i2b => aui i ls st (fun x => x.toInt8.toInt32)
  | .i2c => aui i ls st (fun x => (x.toUInt32 % 65536).toInt32)
  | .ladd => abl i ls st (fun x y => x + y)
  | .lsub => abl i ls st (fun x y => x - y)
  | .lmul => abl i ls st (fun x y => x * y)
  | .land => abl i ls st (fun x y => x &&& y)
  | .ldiv => adl i ls st (fun x y => x / y)
  | .lrem => adl i ls st (fun x y => x - x / y * y)
  | .lneg => aul i ls st (fun x => -x)
  | .lcmp => acl i ls st
  | .lshl => asl i ls st
  | .i2l => ail i ls st
  | .l2i => ali i ls st
  | .dup => adup i ls st
  | .pop => apop i ls st
  | .pop2 => apop2 i ls st
  | .dup2 => adup2 i ls st
  | .ifCond c _ => aif i ls st a c
  | .if_icmp c _ => aic i ls st a c
  | .goto _ => some (a, ls, st)
  | .tableswitch _ lo hi _ => asw ls st a tg lo hi
  | _ => none
/-! what stands for what -/
/-- between the two; where the first is above the second: the last bit is the second -/
def gI (p : Int32 × Int32) (x : Int32) : Prop := if p.1 ≤ p.2 then p.1 ≤ x ∧ x ≤ p.2 else x &&& 1 = p.2
def gV : aV → Value → Prop
  | .inl v, w => w = v
  | .inr p, w => ∃ x : Int32, w = .int x ∧ gI p x
def gN : aN → Int32 → Prop
  | .inl v, w => w = v
  | .inr p, x => gI p x
def gA {α β : Type} (g : α → β → Prop) : List α → List β → Prop
  | [], [] => True
  | a :: as, b :: bs => g a b ∧ gA g as bs
  | _, _ => False
def gO : Option aV → Option Value → Prop
  | none, _ => True
  | some a, some v => gV a v
  | some _, none => False
abbrev gS : List aV → List Value → Prop := gA gV
abbrev gL : aL → xL → Prop := gA gO
def gC : aC → xC → Prop
  | .inl o, .inl p => o.1 = p.1 ∧ gA gV o.2 p.2
  | .inr (.inl o), .inr (.inl p) => o.1 = p.1 ∧ gA gN o.2 p.2
  | .inr (.inr (.inl o)), .inr (.inr (.inl p)) => o = p
  | .inr (.inr (.inr o)), .inr (.inr (.inr p)) => o = p
  | _, _ => False
/-- the cell of class 2000 without fields stands for any cell -/
def gD (a : aC) (c : xC) : Prop := a = .inl (2000, []) ∨ gC a c
abbrev gH : aH → xH → Prop := gA gD
theorem gA_get {α β : Type} {g : α → β → Prop} : ∀ {as : List α} {bs : List β}, gA g as bs → ∀ {i : Nat} {a : α}, as[i]? = some a → ∃ b, bs[i]? = some b ∧ g a b
  | [], [], _, i, a, h => by simp at h
  | x :: as, y :: bs, hg, 0, a, h => by
    simp at h
    subst h
    exact ⟨y, rfl, hg.1⟩
  | x :: as, y :: bs, hg, i + 1, a, h => by
    simp at h
    obtain ⟨b, h1, h2⟩ := gA_get hg.2 h
    exact ⟨b, by simpa using h1, h2⟩
  | [], _ :: _, hg, _, _, _ => hg.elim
  | _ :: _, [], hg, _, _, _ => hg.elim
theorem gA_len {α β : Type} {g : α → β → Prop} : ∀ {as : List α} {bs : List β}, gA g as bs → as.length = bs.length
  | [], [], _ => rfl
  | x :: as, y :: bs, hg => by
    simp
    exact gA_len hg.2
  | [], _ :: _, hg => hg.elim
  | _ :: _, [], hg => hg.elim
theorem gA_set {α β : Type} {g : α → β → Prop} : ∀ {as : List α} {bs : List β}, gA g as bs → ∀ (i : Nat) {a : α} {b : β}, g a b → gA g (as.set i a) (bs.set i b)
  | [], [], _, i, a, b, h => by simp; trivial
  | x :: as, y :: bs, hg, 0, a, b, h => ⟨h, hg.2⟩
  | x :: as, y :: bs, hg, i + 1, a, b, h => ⟨hg.1, gA_set hg.2 i h⟩
  | [], _ :: _, hg, _, _, _, _ => hg.elim
  | _ :: _, [], hg, _, _, _, _ => hg.elim
theorem gA_app {α β : Type} {g : α → β → Prop} : ∀ {as : List α} {bs : List β} {as2 : List α} {bs2 : List β}, gA g as bs → gA g as2 bs2 → gA g (as ++ as2) (bs ++ bs2)
  | [], [], _, _, _, h => h
  | x :: as, y :: bs, _, _, hg, h => ⟨hg.1, gA_app hg.2 h⟩
  | [], _ :: _, _, _, hg, _ => hg.elim
  | _ :: _, [], _, _, hg, _ => hg.elim
theorem gA_take {α β : Type} {g : α → β → Prop} : ∀ {as : List α} {bs : List β}, gA g as bs → ∀ n, gA g (as.take n) (bs.take n)
  | [], [], _, n => by simp; trivial
  | x :: as, y :: bs, hg, 0 => trivial
  | x :: as, y :: bs, hg, n + 1 => ⟨hg.1, gA_take hg.2 n⟩
  | [], _ :: _, hg, _ => hg.elim
  | _ :: _, [], hg, _ => hg.elim
theorem gA_drop {α β : Type} {g : α → β → Prop} : ∀ {as : List α} {bs : List β}, gA g as bs → ∀ n, gA g (as.drop n) (bs.drop n)
  | [], [], _, n => by simp; trivial
  | x :: as, y :: bs, hg, 0 => hg
  | x :: as, y :: bs, hg, n + 1 => gA_drop hg.2 n
  | [], _ :: _, hg, _ => hg.elim
  | _ :: _, [], hg, _ => hg.elim
theorem gA_rev {α β : Type} {g : α → β → Prop} : ∀ {as : List α} {bs : List β}, gA g as bs → gA g as.reverse bs.reverse
  | [], [], _ => trivial
  | x :: as, y :: bs, hg => by
    rw [List.reverse_cons, List.reverse_cons]
    exact gA_app (gA_rev hg.2) ⟨hg.1, trivial⟩
  | [], _ :: _, hg => hg.elim
  | _ :: _, [], hg => hg.elim
theorem gA_rep {α β : Type} {g : α → β → Prop} {a : α} {b : β} (h : g a b) : ∀ n, gA g (List.replicate n a) (List.replicate n b)
  | 0 => trivial
  | n + 1 => ⟨h, gA_rep h n⟩
theorem gA_map {α β γ δ : Type} {g : α → β → Prop} {g' : γ → δ → Prop} {f : α → γ} {k : β → δ} (h : ∀ a b, g a b → g' (f a) (k b)) : ∀ {as : List α} {bs : List β}, gA g as bs → gA g' (as.map f) (bs.map k)
  | [], [], _ => trivial
  | x :: as, y :: bs, hg => ⟨h _ _ hg.1, gA_map h hg.2⟩
  | [], _ :: _, hg => hg.elim
  | _ :: _, [], hg => hg.elim
theorem gV_cat {a : aV} {v : Value} (h : gV a v) : acat a = v.category := by
  match a, h with
  | .inl w, h => rw [show v = w from h]; rfl
  | .inr p, h =>
    obtain ⟨x, rfl, -⟩ := h
    rfl
theorem aTop_in (x : Int32) : aTop.1 ≤ x ∧ x ≤ aTop.2 := by
  have h1 := Int32.le_toInt x
  have h2 := Int32.toInt_lt x
  simp only [aTop, Int32.le_iff_toInt_le]
  exact ⟨by have : (-2147483648 : Int32).toInt = -2147483648 := by decide
            omega, by have : (2147483647 : Int32).toInt = 2147483647 := by decide
                      omega⟩
theorem gI_in {p : Int32 × Int32} {x : Int32} (h : p.1 ≤ x ∧ x ≤ p.2) : gI p x := by
  unfold gI
  rw [if_pos (Int32.le_trans h.1 h.2)]
  exact h
theorem aTop_gI (x : Int32) : gI aTop x := gI_in (aTop_in x)
theorem gTop (x : Int32) : gV (.inr aTop) (.int x) := ⟨x, rfl, aTop_gI x⟩
theorem xand_le (x : Int32) {y : Int32} (h : 0 ≤ y) : 0 ≤ x &&& y ∧ x &&& y ≤ y := by
  have hy : y.toBitVec.msb = false := by
    rw [Int32.le_iff_toInt_le] at h
    have h : 0 ≤ y.toBitVec.toInt := h
    rw [BitVec.msb_eq_toInt]
    simpa using h
  have hm : (x &&& y).toBitVec.msb = false := by
    rw [Int32.toBitVec_and, BitVec.msb_and, hy, Bool.and_false]
  have e1 : y.toInt = (y.toBitVec.toNat : Int) := BitVec.toInt_eq_toNat_of_msb hy
  have e2 : (x &&& y).toInt = ((x &&& y).toBitVec.toNat : Int) := BitVec.toInt_eq_toNat_of_msb hm
  have e3 : (x &&& y).toBitVec.toNat ≤ y.toBitVec.toNat := by
    rw [Int32.toBitVec_and, BitVec.toNat_and]
    exact Nat.and_le_right
  rw [Int32.le_iff_toInt_le, Int32.le_iff_toInt_le]
  have e0 : (0 : Int32).toInt = 0 := rfl
  omega
theorem gL_get {als : aL} {ls : xL} (h : gL als ls) {k : Nat} {a : aV} (hk : als[k]? = some (some a)) : ∃ v, ls[k]? = some (some v) ∧ gV a v := by
  obtain ⟨o, h1, h2⟩ := gA_get h hk
  cases o with
  | none => exact h2.elim
  | some v => exact ⟨v, h1, h2⟩
theorem gL_set1 {als : aL} {ls : xL} (h : gL als ls) (k : Nat) {a : aV} {v : Value} (hv : gV a v) : gL (aset1 als k a) (xset1 ls k v) := by
  cases k with
  | zero => exact gA_set h 0 (a := some a) (b := some v) hv
  | succ j =>
    refine gA_set ?_ (j + 1) (a := some a) (b := some v) hv
    have hl := gA_len h
    cases ho : als[j]? with
    | none =>
      have : ls[j]? = none := by
        rw [List.getElem?_eq_none_iff] at ho ⊢
        omega
      rw [this]
      exact h
    | some o =>
      obtain ⟨q, h1, h2⟩ := gA_get h ho
      rw [h1]
      cases o with
      | none =>
        cases q with
        | none => exact h
        | some w =>
          simp only
          split
          · have e : als = als.set j none := by
              apply List.ext_getElem?
              intro i
              by_cases hi : i = j
              · subst hi
                rw [List.getElem?_set_self (List.getElem?_eq_some_iff.mp ho).1, ho]
              · rw [List.getElem?_set_ne (Ne.symm hi)]
            rw [e]
            exact gA_set h j (a := none) (b := none) trivial
          · exact h
      | some a1 =>
        cases q with
        | none => exact h2.elim
        | some w =>
          simp only
          rw [gV_cat (show gV a1 w from h2)]
          split
          · exact gA_set h j (a := none) (b := none) trivial
          · exact h
theorem gL_set2 {als : aL} {ls : xL} (h : gL als ls) (k : Nat) {a : aV} {v : Value} (hv : gV a v) : gL (aset2 als k a) (xset2 ls k v) := gA_set (gL_set1 h k hv) (k + 1) (a := none) (b := none) trivial
theorem acmp_ok {c : Jvm.ClassFile.Cond} {p q : Int32 × Int32} {x y : Int32} {b : Bool} (hx : p.1 ≤ x ∧ x ≤ p.2) (hy : q.1 ≤ y ∧ y ≤ q.2) (h : acmp c p q = some b) (i a : Nat) (ls : xL) (r : List Value) : xic i ls (.int y :: .int x :: r) a c = if b = true then some (a, ls, r) else some (i + 1, ls, r) := by
  obtain ⟨p1, p2⟩ := p
  obtain ⟨q1, q2⟩ := q
  simp only [Int32.le_iff_toInt_le] at hx hy
  unfold acmp at h
  cases c <;> simp only at h
  case eq =>
    split at h
    · rename_i g
      cases h
      obtain ⟨g1, g2, g3⟩ := g
      subst g1; subst g2; subst g3
      have : x = y := Int32.toInt_inj.mp (by omega)
      simp [xic, this]
    · split at h
      · rename_i g
        cases h
        simp only [Int32.lt_iff_toInt_lt] at g
        have : ¬ x = y := fun e => by subst e; omega
        simp [xic, this]
      · cases h
  case ne =>
    split at h
    · rename_i g
      cases h
      obtain ⟨g1, g2, g3⟩ := g
      subst g1; subst g2; subst g3
      have : x = y := Int32.toInt_inj.mp (by omega)
      simp [xic, this]
    · split at h
      · rename_i g
        cases h
        simp only [Int32.lt_iff_toInt_lt] at g
        have : ¬ x = y := fun e => by subst e; omega
        simp [xic, this]
      · cases h
  all_goals
    split at h
    · rename_i g
      cases h
      simp only [Int32.lt_iff_toInt_lt] at g
      simp only [xic, Int32.lt_iff_toInt_lt, Int32.le_iff_toInt_le]
      first | (rw [if_pos (by omega)]; rfl) | (rw [if_neg (by omega)]; rfl)
    · split at h
      · rename_i g
        cases h
        simp only [Int32.le_iff_toInt_le] at g
        simp only [xic, Int32.lt_iff_toInt_lt, Int32.le_iff_toInt_le]
        first | (rw [if_pos (by omega)]; rfl) | (rw [if_neg (by omega)]; rfl)
      · cases h
theorem xif_ic (i : Nat) (ls : xL) (x : Int32) (r : List Value) (a : Nat) (c : Jvm.ClassFile.Cond) : xif i ls (.int x :: r) a c = xic i ls (.int 0 :: .int x :: r) a c := by cases c <;> rfl
theorem aiv_ok {v : aV} {w : Value} {p : Int32 × Int32} (h : gV v w) (hp : aiv v = some p) : ∃ x, w = .int x ∧ p.1 ≤ x ∧ x ≤ p.2 := by
  match v, h with
  | .inl u, h =>
    cases u <;> try cases hp
    rename_i x
    exact ⟨x, h, Int32.le_refl _, Int32.le_refl _⟩
  | .inr q, h =>
    obtain ⟨x, rfl, h⟩ := h
    have hp : (if q.1 ≤ q.2 then some q else none) = some p := hp
    split at hp
    · rename_i hq
      cases hp
      unfold gI at h
      rw [if_pos hq] at h
      exact ⟨x, rfl, h⟩
    · cases hp

/-! ===== the engine's heap: what it is of the machine's, and the instructions that read and write it ===== -/
def xity : Nat → FieldType
  | 0 => .int
  | _ => .byte
def xArr (s : State) (H : Heap) (a : Nat) (ty : FieldType) (vs : List Value) : Prop := ∃ cell : Cell, H[a]? = some cell ∧ s.isArrayOf cell ty ∧ cell.vm ≠ .unknown ∧ cell.slots = vs.toArray
/-- a text's row of bytes: the words know its length as the program reads it -/
def xArrW (s : State) (H : Heap) (a : Nat) (vs : List Value) : Prop := ∃ cell : Cell, H[a]? = some cell ∧ s.isArrayOf cell .byte ∧ cell.vm ≠ .unknown ∧ vs.length ≤ cell.slots.size ∧ cell.slots.size.toInt32 = Int32.ofNat vs.length ∧ ∀ j, j < vs.length → cell.slots[j]? = vs[j]?
def xAr (s : State) (H : Heap) (a : Nat) (vs : List Value) (u : Nat) : Prop := if u = 2 then xArrW s H a vs else xArr s H a (xity u) vs
theorem xAr.at {s : State} {H : Heap} {a : Nat} {vs : List Value} {u : Nat} (hu : u ≠ 2) (h : xAr s H a vs u) : xArr s H a (xity u) vs := by
  unfold xAr at h
  rw [if_neg hu] at h
  exact h
theorem xAr.cs {s : State} {H : Heap} {a : Nat} {vs : List Value} {u : Nat} (h : xAr s H a vs u) : (u ≠ 2 ∧ xArr s H a (xity u) vs) ∨ (u = 2 ∧ xArrW s H a vs) := by
  unfold xAr at h
  split at h
  · rename_i e
    exact Or.inr ⟨e, h⟩
  · rename_i e
    exact Or.inl ⟨e, h⟩
theorem xAr.of {s : State} {H : Heap} {a : Nat} {vs : List Value} {u : Nat} (h : (u ≠ 2 ∧ xArr s H a (xity u) vs) ∨ (u = 2 ∧ xArrW s H a vs)) : xAr s H a vs u := by
  unfold xAr
  rcases h with ⟨e, h⟩ | ⟨e, h⟩
  · rw [if_neg e]
    exact h
  · rw [if_pos e]
    exact h
theorem xAr.ex {s : State} {H : Heap} {a : Nat} {vs : List Value} {u : Nat} (h : xAr s H a vs u) : ∃ cell : Cell, H[a]? = some cell := by
  rcases h.cs with ⟨_, c, h, _⟩ | ⟨_, c, h, _⟩ <;> exact ⟨c, h⟩
theorem xAr.kept {s : State} {H H' : Heap} {a : Nat} {vs : List Value} {u : Nat} (h : xAr s H a vs u) (e : H'[a]? = H[a]?) : xAr s H' a vs u := by
  apply xAr.of
  rcases h.cs with ⟨e1, c, h, g⟩ | ⟨e1, c, h, g⟩
  · exact Or.inl ⟨e1, c, e.trans h, g⟩
  · exact Or.inr ⟨e1, c, e.trans h, g⟩
theorem xAr.moved {s w : State} {H : Heap} {a : Nat} {vs : List Value} {u : Nat} (h : xAr s H a vs u) (hvm : s.vm.Alike w.vm) : xAr w H a vs u := by
  apply xAr.of
  rcases h.cs with ⟨e1, c, h, g, k⟩ | ⟨e1, c, h, g, k⟩
  · exact Or.inl ⟨e1, c, h, State.isArrayOf_alike hvm g, k⟩
  · exact Or.inr ⟨e1, c, h, State.isArrayOf_alike hvm g, k⟩
/-- a text of the JDK's: an object of class String with its row and its coder -/
def xStr (s : State) (H : Heap) (a : Nat) (v0 v1 : Value) : Prop := va_O "java/lang/String" a (fun _ => False) s H ∧ va_OF "java/lang/String" "value" "[B" v0 a (fun _ => False) s H ∧ va_OF "java/lang/String" "coder" "B" v1 a (fun _ => False) s H
theorem xStr.kept {s : State} {H H' : Heap} {a : Nat} {v0 v1 : Value} (h : xStr s H a v0 v1) (e : H'[a]? = H[a]?) : xStr s H' a v0 v1 := by
  obtain ⟨⟨c1, h1, h2⟩, ⟨f1, f2, f3, f4, f5, f6, f7, f8⟩, ⟨g1, g2, g3, g4, g5, g6, g7, g8⟩⟩ := h
  exact ⟨⟨c1, e.trans h1, h2⟩, ⟨f1, f2, f3, f4, f5, f6, f7, e.trans f8.1, f8.2⟩, ⟨g1, g2, g3, g4, g5, g6, g7, e.trans g8.1, g8.2⟩⟩
theorem xStr.moved {s u : State} {H : Heap} {a : Nat} {v0 v1 : Value} (h : xStr s H a v0 v1) (hvm : s.vm.Alike u.vm) : xStr u H a v0 v1 := ⟨va_O.moved hvm h.1, va_OF.moved hvm h.2.1, va_OF.moved hvm h.2.2⟩
def xAt (D : va_G) (cl : List vw_C) (ad : Nat → Nat) (s : State) (H : Heap) (a : Nat) : xC → Prop
  | .inl o => (∃ r : vw_C, cl[o.1]? = some r ∧ o.2.length = r.2.2 ∧ t_OB a (D.1 o.1) r.2.2 (D.2 o.1) H (vp_V (o.2.map (xsh ad)))) ∨ (o.1 = 1000 ∧ ∃ v0 v1, o.2 = [v0, v1] ∧ xStr s H a (xsh ad v0) (xsh ad v1))
  | .inr (.inl x) => xAr s H a (x.2.map Value.int) x.1
  | .inr (.inr (.inl x)) => xArr s H a .long (x.map Value.long)
  | .inr (.inr (.inr x)) => xArr s H a (.array .int) (x.map (fun k => Value.ref (ad k)))
theorem xAt.kept {D : va_G} {cl : List vw_C} {ad : Nat → Nat} {s : State} {H H' : Heap} {a : Nat} {c : xC} (h : xAt D cl ad s H a c) (e : H'[a]? = H[a]?) : xAt D cl ad s H' a c := by
  match c, h with
  | .inl o, h =>
    rcases h with ⟨r, h1, h2, h3⟩ | ⟨h1, v0, v1, h2, h3⟩
    · exact Or.inl ⟨r, h1, h2, h3.kept e⟩
    · exact Or.inr ⟨h1, v0, v1, h2, h3.kept e⟩
  | .inr (.inl x), h => exact xAr.kept h e
  | .inr (.inr (.inl x)), h =>
    obtain ⟨cell, h1, h2⟩ := h
    exact ⟨cell, e.trans h1, h2⟩
  | .inr (.inr (.inr x)), h =>
    obtain ⟨cell, h1, h2⟩ := h
    exact ⟨cell, e.trans h1, h2⟩
theorem xArr.moved {s u : State} {H : Heap} {a : Nat} {ty : FieldType} {vs : List Value} (h : xArr s H a ty vs) (hvm : s.vm.Alike u.vm) : xArr u H a ty vs := by
  obtain ⟨cell, h1, h2, h3⟩ := h
  exact ⟨cell, h1, State.isArrayOf_alike hvm h2, h3⟩
theorem xAt.moved {D : va_G} {cl : List vw_C} {ad : Nat → Nat} {s u : State} {H : Heap} {a : Nat} {c : xC} (h : xAt D cl ad s H a c) (hvm : s.vm.Alike u.vm) : xAt D cl ad u H a c := by
  match c, h with
  | .inl o, h => exact h.imp (fun h => h) (fun ⟨h1, v0, v1, h2, h3⟩ => ⟨h1, v0, v1, h2, h3.moved hvm⟩)
  | .inr (.inl x), h => exact xAr.moved h hvm
  | .inr (.inr (.inl x)), h => exact xArr.moved h hvm
  | .inr (.inr (.inr x)), h => exact xArr.moved h hvm
theorem xAt.lt {D : va_G} {cl : List vw_C} {ad : Nat → Nat} {s : State} {H : Heap} {a : Nat} {c : xC} (h : xAt D cl ad s H a c) : a < H.size := by
  match c, h with
  | .inl o, h =>
    rcases h with ⟨r, h1, h2, cell, h3, -⟩ | ⟨h1, v0, v1, h2, ⟨cell, h3, -⟩, -⟩
    · exact (Array.getElem?_eq_some_iff.mp h3).1
    · exact (Array.getElem?_eq_some_iff.mp h3).1
  | .inr (.inl x), h => obtain ⟨cell, h1⟩ := xAr.ex h; exact (Array.getElem?_eq_some_iff.mp h1).1
  | .inr (.inr (.inl x)), h => obtain ⟨cell, h1, -⟩ := h; exact (Array.getElem?_eq_some_iff.mp h1).1
  | .inr (.inr (.inr x)), h => obtain ⟨cell, h1, -⟩ := h; exact (Array.getElem?_eq_some_iff.mp h1).1
/-- the engine's heap h is the machine's H from z on; the script and the texts stand at ad 0 to ad 12, below z -/
def xW (D : va_G) (cl : List vw_C) (ad : Nat → Nat) (z : Nat) (s : State) (h : xH) (H : Heap) : Prop :=
  (∀ k, k < 13 → ad k < z) ∧ (∀ k, 13 ≤ k → k < 1048576 → ad k = z + (k - 13)) ∧ 13 ≤ h.length ∧ (h.length ≤ 1048576 ∧ va_Z "java/lang/String" "COMPACT_STRINGS" "Z" (.int 1) (fun q => z ≤ q) s H ∧ va_Z "jdk/internal/util/Preconditions" "SIOOBE_FORMATTER" "Ljava/util/function/BiFunction;" (xsh ad (.retAddr 0)) (fun q => z ≤ q) s H) ∧ H.size = z + (h.length - 13) ∧ ∀ (k : Nat) (c : xC), h[k]? = some c → xAt D cl ad s H (ad k) c
theorem xW.moved {D : va_G} {cl : List vw_C} {ad : Nat → Nat} {z : Nat} {s u : State} {h : xH} {H : Heap} (hw : xW D cl ad z s h H) (hvm : s.vm.Alike u.vm) : xW D cl ad z u h H := by
  obtain ⟨h1, h2, h3, h4, h5, h6⟩ := hw
  exact ⟨h1, h2, h3, ⟨h4.1, va_Z.moved hvm h4.2.1, va_Z.moved hvm h4.2.2⟩, h5, fun k c hk => (h6 k c hk).moved hvm⟩
theorem xW.ne {D : va_G} {cl : List vw_C} {ad : Nat → Nat} {z : Nat} {s : State} {h : xH} {H : Heap} (hw : xW D cl ad z s h H) {i j : Nat} (hi : i < h.length) (hj : j < h.length) (h0 : 13 ≤ j) (e : ad i = ad j) : i = j := by
  obtain ⟨h1, h2, h3, ⟨h4, -⟩, h5, h6⟩ := hw
  have b := h2 j h0 (by omega)
  rcases Nat.lt_or_ge i 13 with hi0 | hi0
  · have := h1 i hi0
    omega
  · have a := h2 i hi0 (by omega)
    omega
theorem xW.in {D : va_G} {cl : List vw_C} {ad : Nat → Nat} {z : Nat} {s : State} {h : xH} {H : Heap} (hw : xW D cl ad z s h H) {o : Nat} (ho : o < h.length) (h0 : 13 ≤ o) : z ≤ ad o := by
  obtain ⟨h1, h2, h3, ⟨h4, -⟩, h5, h6⟩ := hw
  have := h2 o (by omega) (by omega)
  omega
theorem xW.set {D : va_G} {cl : List vw_C} {ad : Nat → Nat} {z : Nat} {s : State} {h : xH} {H H' : Heap} (hw : xW D cl ad z s h H) {o : Nat} {c' : xC} (ho : o < h.length) (h0 : 13 ≤ o) (hc : xAt D cl ad s H' (ad o) c') (hz : H'.size = H.size) (hq : ∀ q, q ≠ ad o → H'[q]? = H[q]?) : xW D cl ad z s (h.set o c') H' := by
  have hin := @xW.ne D cl ad z s h H hw
  have hge := hw.in ho h0
  obtain ⟨h1, h2, h3, ⟨h4, h4a, h4b⟩, h5, h6⟩ := hw
  have hk' : ∀ a : Nat, a < H.size → ¬ z ≤ a → H'[a]? = H[a]? := fun a _ g => hq a (fun e => g (by rw [e]; exact hge))
  refine ⟨h1, h2, by rw [List.length_set]; exact h3, ⟨by rw [List.length_set]; exact h4, h4a.kept hk', h4b.kept hk'⟩, by rw [List.length_set, hz]; exact h5, fun k c hk => ?_⟩
  have hkl : k < h.length := by have := (List.getElem?_eq_some_iff.mp hk).1; rwa [List.length_set] at this
  by_cases e : k = o
  · subst e
    rw [List.getElem?_set_self ho] at hk
    cases hk
    exact hc
  · rw [List.getElem?_set_ne (Ne.symm e)] at hk
    exact (h6 k c hk).kept (hq _ (fun q => e (hin hkl ho h0 q)))
theorem xW.push {D : va_G} {cl : List vw_C} {ad : Nat → Nat} {z : Nat} {s : State} {h : xH} {H H' : Heap} (hw : xW D cl ad z s h H) {c' : xC} (hl : h.length < 1048576) (hc : xAt D cl ad s H' H.size c') (hz : H'.size = H.size + 1) (hq : ∀ q, q < H.size → H'[q]? = H[q]?) : xW D cl ad z s (h ++ [c']) H' ∧ ad h.length = H.size := by
  obtain ⟨h1, h2, h3, ⟨h4, h4a, h4b⟩, h5, h6⟩ := hw
  have ha : ad h.length = H.size := by rw [h2 h.length h3 hl]; omega
  refine ⟨⟨h1, h2, by simp; omega, ⟨by simp; omega, h4a.kept (fun a g _ => hq a g), h4b.kept (fun a g _ => hq a g)⟩, by simp; omega, fun k c hk => ?_⟩, ha⟩
  by_cases e : k < h.length
  · rw [List.getElem?_append_left e] at hk
    exact (h6 k c hk).kept (hq _ (h6 k c hk).lt)
  · rw [List.getElem?_append_right (by omega)] at hk
    have hk0 : k - h.length < 1 := (List.getElem?_eq_some_iff.mp hk).1
    have : k = h.length := by omega
    subst this
    rw [Nat.sub_self] at hk
    cases hk
    rw [ha]
    exact hc
theorem xS.put {z : Nat} {H0 H H1 : Heap} {locs : List Loc} {a k : Nat} (h : va_S (fun q => z ≤ q) H0 H locs) (hz : H1.size = H.size) (oq : ∀ q : Nat, q ≠ a → H1[q]? = H[q]?) (ha : z ≤ a) : va_S (fun q => z ≤ q) H0 H1 (locs ++ [⟨a, k⟩]) := h.put hz oq ha
theorem xS.new {z : Nat} {H0 H H1 : Heap} {locs : List Loc} (h : va_S (fun q => z ≤ q) H0 H locs) (hz : H.size ≤ H1.size) (oq : ∀ q : Nat, q < H.size → H1[q]? = H[q]?) : va_S (fun q => z ≤ q) H0 H1 locs :=
  ⟨Nat.le_trans h.1 hz, fun q h1 h2 => (oq q (Nat.lt_of_lt_of_le h1 h.1)).trans (h.2.1 q h1 h2), h.2.2⟩

/-! what the instructions do -/
abbrev xQ : Type := Option (List Value × xH)
def xgf (k ci : Nat) (st : List Value) (h : xH) : xQ := match st with
  | .ref o :: r => match h[o]? with
    | some (.inl (c, vs)) => if c = ci then match vs[k]? with
      | some v => some (v :: r, h)
      | none => none else none
    | _ => none
  | _ => none
def xpf (ty : FieldType) (k ci : Nat) (st : List Value) (h : xH) : xQ := match st with
  | v :: .ref o :: r => match h[o]? with
    | some (.inl (c, vs)) => if c = ci ∧ 13 ≤ o ∧ k < vs.length ∧ fits ty v = true ∧ narrow ty v = v then some (r, h.set o (.inl (c, vs.set k v))) else none
    | _ => none
  | _ => none
def xia (t : Nat) (st : List Value) (h : xH) : xQ := match st with
  | .int j :: .ref o :: r => match h[o]? with
    | some (.inr (.inl (u, xs))) => if (u = t ∨ (t = 1 ∧ u = 2)) ∧ ¬ j < 0 then match xs[j.toNatClampNeg]? with
      | some v => some (.int v :: r, h)
      | none => none else none
    | _ => none
  | _ => none
def xla (st : List Value) (h : xH) : xQ := match st with
  | .int j :: .ref o :: r => match h[o]? with
    | some (.inr (.inr (.inl xs))) => if ¬ j < 0 then match xs[j.toNatClampNeg]? with
      | some v => some (.long v :: r, h)
      | none => none else none
    | _ => none
  | _ => none
def xaa (st : List Value) (h : xH) : xQ := match st with
  | .int j :: .ref o :: r => match h[o]? with
    | some (.inr (.inr (.inr xs))) => if ¬ j < 0 then match xs[j.toNatClampNeg]? with
      | some v => some (.ref v :: r, h)
      | none => none else none
    | _ => none
  | _ => none
def xis (t : Nat) (f : Int32 → Int32) (st : List Value) (h : xH) : xQ := match st with
  | .int x :: .int j :: .ref o :: r => match h[o]? with
    | some (.inr (.inl (u, xs))) => if u = t ∧ 13 ≤ o ∧ ¬ j < 0 ∧ j.toNatClampNeg < xs.length then some (r, h.set o (.inr (.inl (u, xs.set j.toNatClampNeg (f x))))) else none
    | _ => none
  | _ => none
def xls (st : List Value) (h : xH) : xQ := match st with
  | .long x :: .int j :: .ref o :: r => match h[o]? with
    | some (.inr (.inr (.inl xs))) => if 13 ≤ o ∧ ¬ j < 0 ∧ j.toNatClampNeg < xs.length then some (r, h.set o (.inr (.inr (.inl (xs.set j.toNatClampNeg x))))) else none
    | _ => none
  | _ => none
def xal (st : List Value) (h : xH) : xQ := match st with
  | .ref o :: r => match h[o]? with
    | some (.inr (.inl (_, xs))) => some (.int (Int32.ofNat xs.length) :: r, h)
    | some (.inr (.inr (.inl xs))) => some (.int (Int32.ofNat xs.length) :: r, h)
    | some (.inr (.inr (.inr xs))) => some (.int (Int32.ofNat xs.length) :: r, h)
    | _ => none
  | _ => none
def xnw (ci : Nat) (ft : List (List FieldType)) (st : List Value) (h : xH) : xQ := match ft[ci]? with
  | some tys => if h.length < 1048576 then some (.ref h.length :: st, h ++ [.inl (ci, tys.map defaultValue)]) else none
  | none => none
def xna (t : ArrayType) (st : List Value) (h : xH) : xQ := match st with
  | .int n :: r => if ¬ n < 0 ∧ n.toNatClampNeg ≤ 10000 ∧ h.length < 1048576 then match t with
    | .int => some (.ref h.length :: r, h ++ [.inr (.inl (0, List.replicate n.toNatClampNeg 0))])
    | .byte => some (.ref h.length :: r, h ++ [.inr (.inl (1, List.replicate n.toNatClampNeg 0))])
    | .long => some (.ref h.length :: r, h ++ [.inr (.inr (.inl (List.replicate n.toNatClampNeg 0)))])
    | _ => none else none
  | _ => none
def xma (st : List Value) (h : xH) : xQ := match st with
  | .int k :: .int n :: r => if ¬ n < 0 ∧ ¬ k < 0 ∧ n.toNatClampNeg ≤ 1000 ∧ k.toNatClampNeg ≤ 1000 ∧ h.length + n.toNatClampNeg < 1048576 then
      some (.ref h.length :: r, h ++ (.inr (.inr (.inr ((List.range n.toNatClampNeg).map (fun i => h.length + 1 + i)))) :: List.replicate n.toNatClampNeg (.inr (.inl (0, List.replicate k.toNatClampNeg 0))))) else none
  | _ => none
def xci (a : Nat) (tg : List Nat) (st : List Value) (h : xH) : xQ := match tg with
  | [] => some (.int (Int32.ofNat a) :: st, h)
  | _ => some (.ref a :: st, h)
def xgs (a : Nat) (st : List Value) (h : xH) : xQ := match a with
  | 0 => some (.int 1 :: st, h)
  | _ => some (.retAddr 0 :: st, h)
/-- an instruction that asks heap or tables -/
def xhs (ft : List (List FieldType)) (a : Nat) (tg : List Nat) (st : List Value) (h : xH) : Instr → xQ
  | .getfield _ => xgf a (tg.headD 0) st h
  | .putfield _ => xpf (((ft.getD (tg.headD 0) []).getD a .int)) a (tg.headD 0) st h
  | .iaload => xia 0 st h
  | .baload => xia 1 st h
  | .laload => xla st h
  | .aaload => xaa st h
  | .iastore => xis 0 (fun x => x) st h
  | .bastore => xis 1 (fun x => x.toInt8.toInt32) st h
  | .lastore => xls st h
  | .arraylength => xal st h
  | .new _ => xnw a ft st h
  | .newarray t => xna t st h
  | .multianewarray _ _ => xma st h
  | .ldc _ => xci a tg st h
  | .ldc_w _ => (match tg with
    | [] => some (.int (Int32.ofNat a) :: st, h)
    | _ => none)
  | .getstatic _ => xgs a st h
  | .ldc2_w _ => some (.long (Int64.ofNat a) :: st, h)
  | _ => none
/-- the texts that are loaded: class, number, text, where the text stands -/
abbrev xRs : Type := List (String × Nat × String × Nat)
/-- rows of rows of ints have their class -/
def xAO (U : State) : Prop := (Jvm.Cond.arrayOver (.array .int)).before #[] U = true
theorem xAO.moved {s U : State} (hal : s.vm.Alike U.vm) (h : xAO s) : xAO U := arrayOver_alikeB hal h
theorem xAO.use {args : Array Value} {s : State} (h : xAO s) : (Jvm.Cond.arrayOver (.array .int)).before args s = true := arrayOver_alikeB (Vm.Alike.refl _) h
/-- what the tables must say at such an instruction of a method of the class own -/
def xSite (Ts : List Jvm.Cond) (Rs : xRs) (cl : List vw_C) (own : String) (ini : Bool) (a : Nat) (tg : List Nat) : Instr → Prop
  | .getfield ix => (∃ r : vw_C, cl[tg.headD 0]? = some r ∧ a < r.2.2 ∧ Jvm.Cond.fieldLink own ix (r.2.1 a).1 (r.2.1 a).2.1 (r.2.1 a).2.2.1 ∈ Ts) ∨ (tg.headD 0 = 1000 ∧ ((a = 0 ∧ Jvm.Cond.fieldLink own ix "java/lang/String" "value" "[B" ∈ Ts) ∨ (a = 1 ∧ Jvm.Cond.fieldLink own ix "java/lang/String" "coder" "B" ∈ Ts)))
  | .getstatic ix => (a = 0 ∧ Jvm.Cond.fieldLink own ix "java/lang/String" "COMPACT_STRINGS" "Z" ∈ Ts) ∨ (a = 1 ∧ Jvm.Cond.fieldLink own ix "jdk/internal/util/Preconditions" "SIOOBE_FORMATTER" "Ljava/util/function/BiFunction;" ∈ Ts)
  | .putfield ix => ∃ r : vw_C, cl[tg.headD 0]? = some r ∧ a < r.2.2 ∧ Jvm.Cond.fieldLink own ix (r.2.1 a).1 (r.2.1 a).2.1 (r.2.1 a).2.2.1 ∈ Ts ∧ ((r.2.1 a).2.2.2 = false ∨ (ini = true ∧ (r.2.1 a).1 = own))
  | .new ix => ∃ r : vw_C, cl[a]? = some r ∧ Jvm.Cond.classLink own ix r.1 ∈ Ts ∧ Jvm.Cond.instantiable r.1 r.2.2 ∈ Ts ∧ Jvm.Cond.initialized r.1 ∈ Ts
  | .newarray t => Jvm.Cond.arrayClass (newarray.typeOf t) ∈ Ts
  | .multianewarray ix d => d = 2 ∧ Jvm.Cond.classLink own ix "[[I" ∈ Ts ∧ Jvm.Cond.arrayClass .int ∈ Ts
  | .ldc ix => (tg = [] ∧ Jvm.Cond.constant own ix (Int32.ofNat a) ∈ Ts) ∨ (¬ tg = [] ∧ ∃ tx, (own, ix, tx, a) ∈ Rs)
  | .ldc_w ix => tg = [] → Jvm.Cond.constant own ix (Int32.ofNat a) ∈ Ts
  | .ldc2_w ix => Jvm.Cond.constantLong own ix (Int64.ofNat a) ∈ Ts
  | _ => True
/-- what the tables must say of the classes -/
def xClOk (Ts : List Jvm.Cond) (cl : List vw_C) (ft : List (List FieldType)) : Prop := cl[1000]? = none ∧ ∀ (ci : Nat) (r : vw_C), cl[ci]? = some r → (∀ w ∈ u_ws r.1 r.2.1 r.2.2, w ∈ Ts) ∧ (∀ a, a < r.2.2 → ∀ b, b < r.2.2 → a ≠ b → (r.2.1 a).2.1 ≠ (r.2.1 b).2.1) ∧ ∃ tys, ft[ci]? = some tys ∧ tys.length = r.2.2 ∧ ∀ k, k < r.2.2 → parseFieldDescriptor (r.2.1 k).2.2.1 = some (tys.getD k .int)
/-- the elements of all cells -/
def xcz : xC → Nat
  | .inl o => o.2.length
  | .inr (.inl x) => x.2.length
  | .inr (.inr (.inl x)) => x.length
  | .inr (.inr (.inr x)) => x.length
def xsz : xH → Nat
  | [] => 0
  | c :: h => xcz c + xsz h
theorem xsz_app : ∀ (h g : xH), xsz (h ++ g) = xsz h + xsz g
  | [], g => (Nat.zero_add _).symm
  | c :: h, g => by
    show xcz c + xsz (h ++ g) = xcz c + xsz h + xsz g
    rw [xsz_app h g, Nat.add_assoc]
theorem xsz_set : ∀ (h : xH) (o : Nat) (c c' : xC), h[o]? = some c → xcz c' = xcz c → xsz (h.set o c') = xsz h
  | [], o, c, c', ho, _ => by simp at ho
  | d :: h, 0, c, c', ho, e => by
    simp at ho
    subst ho
    show xcz c' + xsz h = xcz d + xsz h
    rw [e]
  | d :: h, o + 1, c, c', ho, e => by
    simp at ho
    show xcz d + xsz (h.set o c') = xcz d + xsz h
    rw [xsz_set h o c c' ho e]
theorem xfits_sh (ad : Nat → Nat) (ty : FieldType) (v : Value) (h : fits ty v = true) : fits ty (xsh ad v) = true := by
  cases v <;> first | exact h | (cases ty <;> first | exact h | rfl | cases h)
theorem xnar_sh (ad : Nat → Nat) (ty : FieldType) (v : Value) (h : narrow ty v = v) : narrow ty (xsh ad v) = xsh ad v := by
  cases v <;> try exact h
  · cases ty <;> rfl
  · show narrow ty (match ad 2000000 with
      | 0 => Value.null
      | n + 1 => .ref n) = (match ad 2000000 with
      | 0 => Value.null
      | n + 1 => .ref n)
    cases ad 2000000 <;> cases ty <;> rfl
theorem xix_ok {j : Int32} {n : Nat} (h0 : ¬ j < 0) (h : j.toNatClampNeg < n) : ¬ (j < 0 ∨ n ≤ j.toNatClampNeg) := fun q => q.elim h0 (fun q => by omega)

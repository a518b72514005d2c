/-! ===== the engine over whole numbers: a store of numbers, what a run of instructions does to it ===== -/
/-- a value: an int, a long, a reference -/
abbrev jw_V : Type := Int ⊕ (Int ⊕ Nat)
abbrev jw_L : Type := List (Option jw_V)
/-- the store: of each cell each place -/
abbrev jw_H : Type := Nat → Int → Int
/-- what a cell is: an object (its class, of each field 0 int, 1 long, 2 a reference, n + 3 the reference n for good), a row (0 int, 1 byte, 2 text, 3 long, b + 4 the references b, b + 1, .. for good) and how long -/
abbrev jw_S : Type := (Nat × List Nat) ⊕ (Nat × Nat)
def jw_v : jw_V → Value
  | .inl a => .int (Int32.ofInt a)
  | .inr (.inl a) => .long (Int64.ofInt a)
  | .inr (.inr o) => .ref o
def jw_k : Nat → Int → jw_V
  | 0, a => .inl a
  | 1, a => .inr (.inl a)
  | 2, a => .inr (.inr a.toNat)
  | n + 3, _ => .inr (.inr n)
def jw_f : List Nat → Nat → (Int → Int) → List Value
  | [], _, _ => []
  | k :: ks, j, g => jw_v (jw_k k (g (j : Int))) :: jw_f ks (j + 1) g
def jw_ri (n : Nat) (g : Int → Int) : List Int32 := (List.range n).map (fun (j : Nat) => Int32.ofInt (g (j : Int)))
def jw_rl (n : Nat) (g : Int → Int) : List Int64 := (List.range n).map (fun (j : Nat) => Int64.ofInt (g (j : Int)))
def jw_rr (n b : Nat) : List Nat := (List.range n).map (fun (j : Nat) => b + j)
def jw_c (s : jw_S) (g : Int → Int) : xC := match s with
  | .inl (c, ks) => .inl (c, jw_f ks 0 g)
  | .inr (0, n) => .inr (.inl (0, jw_ri n g))
  | .inr (1, n) => .inr (.inl (1, jw_ri n g))
  | .inr (2, n) => .inr (.inl (2, jw_ri n g))
  | .inr (3, n) => .inr (.inr (.inl (jw_rl n g)))
  | .inr (b + 4, n) => .inr (.inr (.inr (jw_rr n b)))
def jw_ok (S : List jw_S) (σ : jw_H) (h : xH) : Prop := h.length = S.length ∧ ∀ (o : Nat) (s : jw_S), S[o]? = some s → h[o]? = some (jw_c s (σ o))
/-- one place told anew -/
def jw_up (σ : jw_H) (o : Nat) (j v : Int) : jw_H := fun o' j' => if o' = o ∧ j' = j then v else σ o' j'
abbrev jw_m (ls : jw_L) : xL := ls.map (Option.map jw_v)
def jw_cat : jw_V → Nat
  | .inr (.inl _) => 2
  | _ => 1
theorem jw_cat_v (v : jw_V) : (jw_v v).category = jw_cat v := by
  match v with
  | .inl _ => rfl
  | .inr (.inl _) => rfl
  | .inr (.inr _) => rfl
def jw_s1 (ls : jw_L) (i : Nat) (v : jw_V) : jw_L :=
  match i with
  | 0 => ls.set 0 (some v)
  | j + 1 => (match ls[j]? with
    | some (some w) => if jw_cat w = 2 then ls.set j none else ls
    | _ => ls).set (j + 1) (some v)
def jw_s2 (ls : jw_L) (i : Nat) (v : jw_V) : jw_L := (jw_s1 ls i v).set (i + 1) none
theorem jw_m_get (ls : jw_L) (k : Nat) : (jw_m ls)[k]? = (ls[k]?).map (Option.map jw_v) := List.getElem?_map
theorem jw_s1_m (ls : jw_L) (i : Nat) (v : jw_V) : jw_m (jw_s1 ls i v) = xset1 (jw_m ls) i (jw_v v) := by
  cases i with
  | zero => simp only [jw_s1, xset1, jw_m, List.map_set, Option.map_some]
  | succ j =>
    simp only [jw_s1, xset1]
    rw [jw_m_get]
    match h : ls[j]? with
    | none => simp only [Option.map_none, jw_m, List.map_set, Option.map_some]
    | some none => simp only [Option.map_some, Option.map_none, jw_m, List.map_set]
    | some (some w) =>
      simp only [Option.map_some]
      rw [jw_cat_v]
      split <;> simp only [jw_m, List.map_set, Option.map_some, Option.map_none]
theorem jw_s2_m (ls : jw_L) (i : Nat) (v : jw_V) : jw_m (jw_s2 ls i v) = xset2 (jw_m ls) i (jw_v v) := by
  simp only [jw_s2, xset2]
  rw [← jw_s1_m]
  simp only [jw_m, List.map_set, Option.map_none]
/-! what the machine's own sums come to, as whole numbers -/
def jw_n (a : Int) : Int := (Int32.ofInt a).toInt
def jw_nl (a : Int) : Int := (Int64.ofInt a).toInt
def jw_and (a b : Int) : Int := (Int32.ofInt a &&& Int32.ofInt b).toInt
def jw_or (a b : Int) : Int := (Int32.ofInt a ||| Int32.ofInt b).toInt
def jw_xor (a b : Int) : Int := (Int32.ofInt a ^^^ Int32.ofInt b).toInt
def jw_shl (a b : Int) : Int := (Int32.ofInt a <<< (Int32.ofInt b &&& 31)).toInt
def jw_shr (a b : Int) : Int := (Int32.ofInt a >>> (Int32.ofInt b &&& 31)).toInt
def jw_ushr (a b : Int) : Int := (((Int32.ofInt a).toUInt32 >>> ((Int32.ofInt b).toUInt32 &&& Int32.toUInt32 31)).toInt32).toInt
def jw_b (a : Int) : Int := ((Int32.ofInt a).toInt8.toInt32).toInt
def jw_ch (a : Int) : Int := (((Int32.ofInt a).toUInt32 % 65536).toInt32).toInt
def jw_div (a b : Int) : Int := (Int32.ofInt a / Int32.ofInt b).toInt
def jw_rem (a b : Int) : Int := (Int32.ofInt a - Int32.ofInt a / Int32.ofInt b * Int32.ofInt b).toInt
def jw_ldiv (a b : Int) : Int := (Int64.ofInt a / Int64.ofInt b).toInt
def jw_lrem (a b : Int) : Int := (Int64.ofInt a - Int64.ofInt a / Int64.ofInt b * Int64.ofInt b).toInt
def jw_land (a b : Int) : Int := (Int64.ofInt a &&& Int64.ofInt b).toInt
def jw_lshl (a b : Int) : Int := (Int64.ofInt a <<< ((Int32.ofInt b).toInt64 &&& 63)).toInt
abbrev jw_P : Type := Option (Nat × jw_L × List jw_V)
def jw_ldi (i : Nat) (ls : jw_L) (st : List jw_V) (k : Nat) : jw_P := match ls[k]? with
  | some (some (.inl a)) => some (i + 1, ls, .inl a :: st)
  | _ => none
def jw_ldl (i : Nat) (ls : jw_L) (st : List jw_V) (k : Nat) : jw_P := match ls[k]? with
  | some (some (.inr (.inl a))) => some (i + 1, ls, .inr (.inl a) :: st)
  | _ => none
def jw_lda (i : Nat) (ls : jw_L) (st : List jw_V) (k : Nat) : jw_P := match ls[k]? with
  | some (some (.inr (.inr a))) => some (i + 1, ls, .inr (.inr a) :: st)
  | _ => none
def jw_sti (i : Nat) (ls : jw_L) (st : List jw_V) (k : Nat) : jw_P := match st with
  | .inl a :: r => if k < ls.length then some (i + 1, jw_s1 ls k (.inl a), r) else none
  | _ => none
def jw_sta (i : Nat) (ls : jw_L) (st : List jw_V) (k : Nat) : jw_P := match st with
  | .inr (.inr a) :: r => if k < ls.length then some (i + 1, jw_s1 ls k (.inr (.inr a)), r) else none
  | _ => none
def jw_stl (i : Nat) (ls : jw_L) (st : List jw_V) (k : Nat) : jw_P := match st with
  | .inr (.inl a) :: r => if k + 1 < ls.length then some (i + 1, jw_s2 ls k (.inr (.inl a)), r) else none
  | _ => none
def jw_inc (i : Nat) (ls : jw_L) (st : List jw_V) (k : Nat) (n : Int) : jw_P := match ls[k]? with
  | some (some (.inl a)) => if k < ls.length then some (i + 1, jw_s1 ls k (.inl (a + n)), st) else none
  | _ => none
def jw_bi (i : Nat) (ls : jw_L) (st : List jw_V) (f : Int → Int → Int) : jw_P := match st with
  | .inl y :: .inl x :: r => some (i + 1, ls, .inl (f x y) :: r)
  | _ => none
def jw_ui (i : Nat) (ls : jw_L) (st : List jw_V) (f : Int → Int) : jw_P := match st with
  | .inl x :: r => some (i + 1, ls, .inl (f x) :: r)
  | _ => none
def jw_bl (i : Nat) (ls : jw_L) (st : List jw_V) (f : Int → Int → Int) : jw_P := match st with
  | .inr (.inl y) :: .inr (.inl x) :: r => some (i + 1, ls, .inr (.inl (f x y)) :: r)
  | _ => none
def jw_ul (i : Nat) (ls : jw_L) (st : List jw_V) (f : Int → Int) : jw_P := match st with
  | .inr (.inl x) :: r => some (i + 1, ls, .inr (.inl (f x)) :: r)
  | _ => none
def jw_il (i : Nat) (ls : jw_L) (st : List jw_V) : jw_P := match st with
  | .inl x :: r => some (i + 1, ls, .inr (.inl (jw_n x)) :: r)
  | _ => none
def jw_li (i : Nat) (ls : jw_L) (st : List jw_V) : jw_P := match st with
  | .inr (.inl x) :: r => some (i + 1, ls, .inl x :: r)
  | _ => none
def jw_sl (i : Nat) (ls : jw_L) (st : List jw_V) : jw_P := match st with
  | .inl y :: .inr (.inl x) :: r => some (i + 1, ls, .inr (.inl (jw_lshl x y)) :: r)
  | _ => none
def jw_dup (i : Nat) (ls : jw_L) (st : List jw_V) : jw_P := match st with
  | v :: r => if jw_cat v = 1 then some (i + 1, ls, v :: v :: r) else none
  | _ => none
def jw_pop (i : Nat) (ls : jw_L) (st : List jw_V) : jw_P := match st with
  | v :: r => if jw_cat v = 1 then some (i + 1, ls, r) else none
  | _ => none
def jw_pop2 (i : Nat) (ls : jw_L) (st : List jw_V) : jw_P := match st with
  | v :: r => if jw_cat v = 2 then some (i + 1, ls, r) else none
  | _ => none
def jw_dup2 (i : Nat) (ls : jw_L) (st : List jw_V) : jw_P := match st with
  | v :: w :: r => if jw_cat v = 1 ∧ jw_cat w = 1 then some (i + 1, ls, v :: w :: v :: w :: r) else none
  | _ => none
/-- an instruction that asks neither store nor tables, and goes one way -/
def jw_p (i a : Nat) (ls : jw_L) (st : List jw_V) : Instr → jw_P
  | .iconst n => some (i + 1, ls, .inl n :: st)
  | .bipush n => if -128 ≤ n ∧ n ≤ 127 then some (i + 1, ls, .inl n :: st) else none
  | .sipush n => if -32768 ≤ n ∧ n ≤ 32767 then some (i + 1, ls, .inl n :: st) else none
  | .lconst n => some (i + 1, ls, .inr (.inl ((n : Nat) : Int)) :: st)
  | .iload k => jw_ldi i ls st k
  | .iload_n k => jw_ldi i ls st (k : Nat)
  | .lload k => jw_ldl i ls st k
  | .lload_n k => jw_ldl i ls st (k : Nat)
  | .aload k => jw_lda i ls st k
  | .aload_n k => jw_lda i ls st (k : Nat)
  | .istore k => jw_sti i ls st k
  | .istore_n k => jw_sti i ls st (k : Nat)
  | .lstore k => jw_stl i ls st k
  | .lstore_n k => jw_stl i ls st (k : Nat)
  | .astore k => jw_sta i ls st k
  | .astore_n k => jw_sta i ls st (k : Nat)
  | .iinc k n => jw_inc i ls st k n
  | .iadd => jw_bi i ls st (fun x y => x + y)
  | .isub => jw_bi i ls st (fun x y => x - y)
  | .imul => jw_bi i ls st (fun x y => x * y)
  | .iand => jw_bi i ls st jw_and
  | .ior => jw_bi i ls st jw_or
  | .ixor => jw_bi i ls st jw_xor
  | .ishl => jw_bi i ls st jw_shl
  | .ishr => jw_bi i ls st jw_shr
  | .iushr => jw_bi i ls st jw_ushr
  | .ineg => jw_ui i ls st (fun x => -x)
  | .i2b => jw_ui i ls st jw_b
  | .i2c => jw_ui i ls st jw_ch
  | .ladd => jw_bl i ls st (fun x y => x + y)
  | .lsub => jw_bl i ls st (fun x y => x - y)
  | .lmul => jw_bl i ls st (fun x y => x * y)
  | .land => jw_bl i ls st jw_land
  | .lneg => jw_ul i ls st (fun x => -x)
  | .lshl => jw_sl i ls st
  | .i2l => jw_il i ls st
  | .l2i => jw_li i ls st
  | .dup => jw_dup i ls st
  | .pop => jw_pop i ls st
  | .pop2 => jw_pop2 i ls st
  | .dup2 => jw_dup2 i ls st
  | .goto _ => some (a, ls, st)
  | _ => none
theorem jw_of8 {n : Int} (h : -128 ≤ n ∧ n ≤ 127) : (Int8.ofInt n).toInt32 = Int32.ofInt n := by
  rw [← Int32.ofInt_int8ToInt, Int8.toInt_ofInt_of_le (by omega) (by omega)]
theorem jw_of16 {n : Int} (h : -32768 ≤ n ∧ n ≤ 32767) : (Int16.ofInt n).toInt32 = Int32.ofInt n := by
  rw [← Int32.ofInt_int16ToInt, Int16.toInt_ofInt_of_le (by omega) (by omega)]
theorem jw_p_ok {i a : Nat} {tg : List Nat} {ls : jw_L} {st : List jw_V} {ins : Instr} {i' : Nat} {ls' : jw_L} {st' : List jw_V} (h : jw_p i a ls st ins = some (i', ls', st')) : xps i a tg (jw_m ls) (st.map jw_v) ins = some (i', jw_m ls', st'.map jw_v) := by
  have LDI : ∀ k, jw_ldi i ls st k = some (i', ls', st') → xldi i (jw_m ls) (st.map jw_v) k = some (i', jw_m ls', st'.map jw_v) := by
    intro k h
    unfold jw_ldi at h
    unfold xldi
    rw [jw_m_get]
    split at h
    · rename_i x hx
      cases h
      rw [hx]
      rfl
    · cases h
  have LDL : ∀ k, jw_ldl i ls st k = some (i', ls', st') → xldl i (jw_m ls) (st.map jw_v) k = some (i', jw_m ls', st'.map jw_v) := by
    intro k h
    unfold jw_ldl at h
    unfold xldl
    rw [jw_m_get]
    split at h
    · rename_i x hx
      cases h
      rw [hx]
      rfl
    · cases h
  have LDA : ∀ k, jw_lda i ls st k = some (i', ls', st') → xlda i (jw_m ls) (st.map jw_v) k = some (i', jw_m ls', st'.map jw_v) := by
    intro k h
    unfold jw_lda at h
    unfold xlda
    rw [jw_m_get]
    split at h
    · rename_i x hx
      cases h
      rw [hx]
      rfl
    · cases h
  have STI : ∀ k, jw_sti i ls st k = some (i', ls', st') → xsti i (jw_m ls) (st.map jw_v) k = some (i', jw_m ls', st'.map jw_v) := by
    intro k h
    unfold jw_sti at h
    split at h
    · split at h
      · rename_i hk
        cases h
        simp only [List.map_cons, jw_v, xsti]
        rw [if_pos (by rw [List.length_map]; exact hk), jw_s1_m]
        rfl
      · cases h
    · cases h
  have STA : ∀ k, jw_sta i ls st k = some (i', ls', st') → xsta i (jw_m ls) (st.map jw_v) k = some (i', jw_m ls', st'.map jw_v) := by
    intro k h
    unfold jw_sta at h
    split at h
    · split at h
      · rename_i hk
        cases h
        simp only [List.map_cons, jw_v, xsta]
        rw [if_pos (by rw [List.length_map]; exact hk), jw_s1_m]
        rfl
      · cases h
    · cases h
  have STL : ∀ k, jw_stl i ls st k = some (i', ls', st') → xstl i (jw_m ls) (st.map jw_v) k = some (i', jw_m ls', st'.map jw_v) := by
    intro k h
    unfold jw_stl at h
    split at h
    · split at h
      · rename_i hk
        cases h
        simp only [List.map_cons, jw_v, xstl]
        rw [if_pos (by rw [List.length_map]; exact hk), jw_s2_m]
        rfl
      · cases h
    · cases h
  have INC : ∀ k n, jw_inc i ls st k n = some (i', ls', st') → xinc i (jw_m ls) (st.map jw_v) k (Int32.ofInt n) = some (i', jw_m ls', st'.map jw_v) := by
    intro k n h
    unfold jw_inc at h
    unfold xinc
    rw [jw_m_get]
    split at h
    · rename_i x hx
      split at h
      · rename_i hk
        cases h
        rw [hx]
        simp only [Option.map_some, jw_v]
        rw [if_pos (by rw [List.length_map]; exact hk), jw_s1_m]
        simp only [jw_v, Int32.ofInt_add]
      · cases h
    · cases h
  have BI : ∀ (f : Int → Int → Int) (g : Int32 → Int32 → Int32), (∀ x y, Int32.ofInt (f x y) = g (Int32.ofInt x) (Int32.ofInt y)) → jw_bi i ls st f = some (i', ls', st') → xbi i (jw_m ls) (st.map jw_v) g = some (i', jw_m ls', st'.map jw_v) := by
    intro f g hg h
    unfold jw_bi at h
    split at h
    · cases h
      simp only [List.map_cons, jw_v, xbi, hg]
    · cases h
  have UI : ∀ (f : Int → Int) (g : Int32 → Int32), (∀ x, Int32.ofInt (f x) = g (Int32.ofInt x)) → jw_ui i ls st f = some (i', ls', st') → xui i (jw_m ls) (st.map jw_v) g = some (i', jw_m ls', st'.map jw_v) := by
    intro f g hg h
    unfold jw_ui at h
    split at h
    · cases h
      simp only [List.map_cons, jw_v, xui, hg]
    · cases h
  have BL : ∀ (f : Int → Int → Int) (g : Int64 → Int64 → Int64), (∀ x y, Int64.ofInt (f x y) = g (Int64.ofInt x) (Int64.ofInt y)) → jw_bl i ls st f = some (i', ls', st') → xbl i (jw_m ls) (st.map jw_v) g = some (i', jw_m ls', st'.map jw_v) := by
    intro f g hg h
    unfold jw_bl at h
    split at h
    · cases h
      simp only [List.map_cons, jw_v, xbl, hg]
    · cases h
  cases ins
  case iconst n => cases h; rfl
  case bipush n =>
    simp only [jw_p] at h
    split at h
    · rename_i hn
      cases h
      simp only [xps, List.map_cons, jw_v, jw_of8 hn]
    · cases h
  case sipush n =>
    simp only [jw_p] at h
    split at h
    · rename_i hn
      cases h
      simp only [xps, List.map_cons, jw_v, jw_of16 hn]
    · cases h
  case lconst n =>
    cases h
    simp only [xps, List.map_cons, jw_v, Int64.ofInt_eq_ofNat]
  case iload k => exact LDI k h
  case iload_n k => exact LDI k h
  case lload k => exact LDL k h
  case lload_n k => exact LDL k h
  case aload k => exact LDA k h
  case aload_n k => exact LDA k h
  case istore k => exact STI k h
  case istore_n k => exact STI k h
  case lstore k => exact STL k h
  case lstore_n k => exact STL k h
  case astore k => exact STA k h
  case astore_n k => exact STA k h
  case iinc k n => exact INC k n h
  case iadd => exact BI _ _ Int32.ofInt_add h
  case isub => exact BI _ _ Int32.ofInt_sub h
  case imul => exact BI _ _ Int32.ofInt_mul h
  case iand => exact BI _ _ (fun _ _ => Int32.ofInt_toInt _) h
  case ior => exact BI _ _ (fun _ _ => Int32.ofInt_toInt _) h
  case ixor => exact BI _ _ (fun _ _ => Int32.ofInt_toInt _) h
  case ishl => exact BI _ _ (fun _ _ => Int32.ofInt_toInt _) h
  case ishr => exact BI _ _ (fun _ _ => Int32.ofInt_toInt _) h
  case iushr => exact BI _ _ (fun _ _ => Int32.ofInt_toInt _) h
  case ineg => exact UI _ _ Int32.ofInt_neg h
  case i2b => exact UI _ _ (fun _ => Int32.ofInt_toInt _) h
  case i2c => exact UI _ _ (fun _ => Int32.ofInt_toInt _) h
  case ladd => exact BL _ _ Int64.ofInt_add h
  case lsub => exact BL _ _ Int64.ofInt_sub h
  case lmul => exact BL _ _ Int64.ofInt_mul h
  case land => exact BL _ _ (fun _ _ => Int64.ofInt_toInt _) h
  case lneg =>
    simp only [jw_p] at h
    unfold jw_ul at h
    split at h
    · cases h
      simp only [xps, xul, List.map_cons, jw_v, Int64.ofInt_neg]
    · cases h
  case lshl =>
    simp only [jw_p] at h
    unfold jw_sl at h
    split at h
    · cases h
      simp only [xps, xsl, List.map_cons, jw_v, jw_lshl, Int64.ofInt_toInt]
    · cases h
  case i2l =>
    simp only [jw_p] at h
    unfold jw_il at h
    split at h
    · cases h
      simp only [xps, xil, List.map_cons, jw_v, jw_n, Int64.ofInt_int32ToInt]
    · cases h
  case l2i =>
    simp only [jw_p] at h
    unfold jw_li at h
    split at h
    · rename_i x r
      cases h
      simp only [xps, xli, List.map_cons, jw_v]
      rw [Int64.toInt32_ofInt]
    · cases h
  case dup =>
    simp only [jw_p] at h
    unfold jw_dup at h
    split at h
    · rename_i v r
      split at h
      · rename_i hc
        cases h
        simp only [xps, xdup, List.map_cons]
        rw [if_pos (by rw [jw_cat_v]; exact hc)]
      · cases h
    · cases h
  case pop =>
    simp only [jw_p] at h
    unfold jw_pop at h
    split at h
    · rename_i v r
      split at h
      · rename_i hc
        cases h
        simp only [xps, xpop, List.map_cons]
        rw [if_pos (by rw [jw_cat_v]; exact hc)]
      · cases h
    · cases h
  case pop2 =>
    simp only [jw_p] at h
    unfold jw_pop2 at h
    split at h
    · rename_i v r
      split at h
      · rename_i hc
        cases h
        simp only [xps, xpop2, List.map_cons]
        rw [if_pos (by rw [jw_cat_v]; exact hc)]
      · cases h
    · cases h
  case dup2 =>
    simp only [jw_p] at h
    unfold jw_dup2 at h
    split at h
    · rename_i v w r
      split at h
      · rename_i hc
        cases h
        simp only [xps, xdup2, List.map_cons]
        rw [if_pos (by rw [jw_cat_v, jw_cat_v]; exact hc)]
      · cases h
    · cases h
  case goto n => cases h; rfl
  all_goals cases h

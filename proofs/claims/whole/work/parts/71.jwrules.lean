/-! ===== the engine over whole numbers: the rules ===== -/
/-- from here the instructions come to an end, with Q; so many calls may be open below -/
def jw_W (S : List jw_S) (D : Nat) (cd : List xI) (i : Nat) (ls : jw_L) (st : List jw_V) (σ : jw_H) (Q : Option jw_V → jw_H → Prop) : Prop :=
  ∀ h, jw_ok S σ h → ∃ (N : Nat) (r : Option jw_V) (σ' : jw_H) (h' : xH), jw_ok S σ' h' ∧ Q r σ' ∧ ∀ F f d, N ≤ F → N ≤ f → D ≤ d → xrun xft xP (xex xft xP F d) cd f i (jw_m ls) (st.map jw_v) h = some (r.map jw_v, h')
/-- a method comes to an end, with Q -/
def jw_T (S : List jw_S) (D k : Nat) (as : List jw_V) (σ : jw_H) (Q : Option jw_V → jw_H → Prop) : Prop :=
  ∀ h, jw_ok S σ h → ∃ (N : Nat) (r : Option jw_V) (σ' : jw_H) (h' : xH), jw_ok S σ' h' ∧ Q r σ' ∧ ∀ F d, N ≤ F → D ≤ d → xex xft xP F d k (as.map jw_v) h = some (r.map jw_v, h')
section JWR
variable {S : List jw_S} {D : Nat} {cd : List xI} {i : Nat} {ls : jw_L} {st : List jw_V} {σ : jw_H} {Q : Option jw_V → jw_H → Prop}
theorem jw_W_mono {Q' : Option jw_V → jw_H → Prop} (w : jw_W S D cd i ls st σ Q) (hQ : ∀ r σ', Q r σ' → Q' r σ') : jw_W S D cd i ls st σ Q' := by
  intro h hh
  obtain ⟨N, r, σ', h', a, b, c⟩ := w h hh
  exact ⟨N, r, σ', h', a, hQ r σ' b, c⟩
theorem jw_T_mono {k : Nat} {as : List jw_V} {D' : Nat} {Q' : Option jw_V → jw_H → Prop} (w : jw_T S D k as σ Q) (hD : D ≤ D') (hQ : ∀ r σ', Q r σ' → Q' r σ') : jw_T S D' k as σ Q' := by
  intro h hh
  obtain ⟨N, r, σ', h', a, b, c⟩ := w h hh
  exact ⟨N, r, σ', h', a, hQ r σ' b, fun F d hF hd => c F d hF (Nat.le_trans hD hd)⟩
/-- one step of the engine is enough for a rule -/
theorem jw_W_step {σ1 : jw_H} {i' : Nat} {ls' : jw_L} {st' : List jw_V} (k : jw_W S D cd i' ls' st' σ1 Q)
    (hs : ∀ h, jw_ok S σ h → ∃ h1, jw_ok S σ1 h1 ∧ ∀ call f, xrun xft xP call cd (f + 1) i (jw_m ls) (st.map jw_v) h = xrun xft xP call cd f i' (jw_m ls') (st'.map jw_v) h1) : jw_W S D cd i ls st σ Q := by
  intro h hh
  obtain ⟨h1, hh1, e⟩ := hs h hh
  obtain ⟨N, r, σ', h', a, b, c⟩ := k h1 hh1
  refine ⟨N + 1, r, σ', h', a, b, fun F f d hF hf hd => ?_⟩
  obtain ⟨f', rfl⟩ : ∃ f', f = f' + 1 := ⟨f - 1, by omega⟩
  rw [e]
  exact c F f' d (by omega) (by omega) hd
theorem jw_xp {call : Nat → List Value → xH → xR} {f pc n a : Nat} {tg : List Nat} {ins : Instr} {L : xL} {st : List Value} {h : xH} {i' : Nat} {L' : xL} {st' : List Value} (hq : cd[i]? = some (pc, ins, n, a, tg)) (hs : xps i a tg L st ins = some (i', L', st')) : xrun xft xP call cd (f + 1) i L st h = xrun xft xP call cd f i' L' st' h := by
  rw [xrun, hq]
  simp only [hs]
theorem jw_xh {call : Nat → List Value → xH → xR} {f pc n a : Nat} {tg : List Nat} {ins : Instr} {L : xL} {st : List Value} {h : xH} {st' : List Value} {h' : xH} (hq : cd[i]? = some (pc, ins, n, a, tg)) (h0 : xps i a tg L st ins = none) (hs : xhs xft a tg st h ins = some (st', h')) : xrun xft xP call cd (f + 1) i L st h = xrun xft xP call cd f (i + 1) L st' h' := by
  rw [xrun, hq]
  simp only [h0, hs]
theorem jw_W_p {q : xI} {i' : Nat} {ls' : jw_L} {st' : List jw_V} (hq : cd[i]? = some q) (hs : jw_p i q.2.2.2.1 ls st q.2.1 = some (i', ls', st')) (k : jw_W S D cd i' ls' st' σ Q) : jw_W S D cd i ls st σ Q :=
  jw_W_step k (fun h hh => ⟨h, hh, fun _ _ => jw_xp hq (jw_p_ok hs)⟩)
def jw_pn (cd : List xI) : Nat → Nat → jw_L → List jw_V → jw_P
  | 0, i, ls, st => some (i, ls, st)
  | n + 1, i, ls, st => match cd[i]? with
    | none => none
    | some q => match jw_p i q.2.2.2.1 ls st q.2.1 with
      | none => none
      | some m => jw_pn cd n m.1 m.2.1 m.2.2
/-- so many instructions that ask nothing, at once -/
theorem jw_W_n {i' : Nat} {ls' : jw_L} {st' : List jw_V} : ∀ (n : Nat) {i : Nat} {ls : jw_L} {st : List jw_V}, jw_pn cd n i ls st = some (i', ls', st') → jw_W S D cd i' ls' st' σ Q → jw_W S D cd i ls st σ Q
  | 0, i, ls, st, hs, k => by
    cases hs
    exact k
  | n + 1, i, ls, st, hs, k => by
    unfold jw_pn at hs
    split at hs
    · cases hs
    · rename_i q hq
      split at hs
      · cases hs
      · rename_i m hm
        exact jw_W_p (i' := m.1) (ls' := m.2.1) (st' := m.2.2) hq hm (jw_W_n n hs k)
/-! ways apart -/
def jw_rg (x : Int) : Prop := -2147483648 ≤ x ∧ x ≤ 2147483647
def jw_rgl (x : Int) : Prop := -9223372036854775808 ≤ x ∧ x ≤ 9223372036854775807
theorem jw_n_id {x : Int} (h : jw_rg x) : jw_n x = x := Int32.toInt_ofInt_of_le (by have := h.1; omega) (by have := h.2; omega)
theorem jw_nl_id {x : Int} (h : jw_rgl x) : jw_nl x = x := Int64.toInt_ofInt_of_le (by have := h.1; omega) (by have := h.2; omega)
theorem jw_eq32 {x y : Int} (hx : jw_rg x) (hy : jw_rg y) : Int32.ofInt x = Int32.ofInt y ↔ x = y := by
  rw [← Int32.toInt_inj]
  show jw_n x = jw_n y ↔ _
  rw [jw_n_id hx, jw_n_id hy]
theorem jw_lt32 {x y : Int} (hx : jw_rg x) (hy : jw_rg y) : Int32.ofInt x < Int32.ofInt y ↔ x < y := by
  rw [Int32.lt_iff_toInt_lt]
  show jw_n x < jw_n y ↔ _
  rw [jw_n_id hx, jw_n_id hy]
theorem jw_le32 {x y : Int} (hx : jw_rg x) (hy : jw_rg y) : Int32.ofInt x ≤ Int32.ofInt y ↔ x ≤ y := by
  rw [Int32.le_iff_toInt_le]
  show jw_n x ≤ jw_n y ↔ _
  rw [jw_n_id hx, jw_n_id hy]
theorem jw_eq64 {x y : Int} (hx : jw_rgl x) (hy : jw_rgl y) : Int64.ofInt x = Int64.ofInt y ↔ x = y := by
  rw [← Int64.toInt_inj]
  show jw_nl x = jw_nl y ↔ _
  rw [jw_nl_id hx, jw_nl_id hy]
theorem jw_lt64 {x y : Int} (hx : jw_rgl x) (hy : jw_rgl y) : Int64.ofInt x < Int64.ofInt y ↔ x < y := by
  rw [Int64.lt_iff_toInt_lt]
  show jw_nl x < jw_nl y ↔ _
  rw [jw_nl_id hx, jw_nl_id hy]
def jw_cc (c : Jvm.ClassFile.Cond) (x y : Int) : Prop := match c with
  | .eq => x = y
  | .ne => x ≠ y
  | .lt => x < y
  | .ge => y ≤ x
  | .gt => y < x
  | .le => x ≤ y
theorem jw_xic {x y : Int} (hx : jw_rg x) (hy : jw_rg y) (c : Jvm.ClassFile.Cond) (a : Nat) (L : xL) (r : List Value) : (jw_cc c x y → xic i L (.int (Int32.ofInt y) :: .int (Int32.ofInt x) :: r) a c = some (a, L, r)) ∧ (¬ jw_cc c x y → xic i L (.int (Int32.ofInt y) :: .int (Int32.ofInt x) :: r) a c = some (i + 1, L, r)) := by
  cases c <;> simp only [jw_cc, xic, jw_eq32 hx hy, jw_lt32 hx hy, jw_lt32 hy hx, jw_le32 hx hy, jw_le32 hy hx]
  · exact ⟨fun h => if_pos h, fun h => if_neg h⟩
  · exact ⟨fun h => if_neg h, fun h => if_pos (Classical.not_not.mp h)⟩
  · exact ⟨fun h => if_pos h, fun h => if_neg h⟩
  · exact ⟨fun h => if_pos h, fun h => if_neg h⟩
  · exact ⟨fun h => if_pos h, fun h => if_neg h⟩
  · exact ⟨fun h => if_pos h, fun h => if_neg h⟩
theorem jw_W_ic {pc n a : Nat} {off : Int} {tg : List Nat} {c : Jvm.ClassFile.Cond} {x y : Int} (hq : cd[i]? = some (pc, .if_icmp c off, n, a, tg)) (hx : jw_rg x) (hy : jw_rg y) (k1 : jw_cc c x y → jw_W S D cd a ls st σ Q) (k2 : ¬ jw_cc c x y → jw_W S D cd (i + 1) ls st σ Q) : jw_W S D cd i ls (.inl y :: .inl x :: st) σ Q := by
  by_cases hc : jw_cc c x y
  · exact jw_W_step (k1 hc) (fun h hh => ⟨h, hh, fun _ _ => jw_xp hq ((jw_xic hx hy c a _ _).1 hc)⟩)
  · exact jw_W_step (k2 hc) (fun h hh => ⟨h, hh, fun _ _ => jw_xp hq ((jw_xic hx hy c a _ _).2 hc)⟩)
theorem jw_W_if {pc n a : Nat} {off : Int} {tg : List Nat} {c : Jvm.ClassFile.Cond} {x : Int} (hq : cd[i]? = some (pc, .ifCond c off, n, a, tg)) (hx : jw_rg x) (k1 : jw_cc c x 0 → jw_W S D cd a ls st σ Q) (k2 : ¬ jw_cc c x 0 → jw_W S D cd (i + 1) ls st σ Q) : jw_W S D cd i ls (.inl x :: st) σ Q := by
  have hy : jw_rg 0 := by unfold jw_rg; omega
  by_cases hc : jw_cc c x 0
  · exact jw_W_step (k1 hc) (fun h hh => ⟨h, hh, fun _ _ => jw_xp hq ((xif_ic i _ _ _ a c).trans ((jw_xic hx hy c a _ _).1 hc))⟩)
  · exact jw_W_step (k2 hc) (fun h hh => ⟨h, hh, fun _ _ => jw_xp hq ((xif_ic i _ _ _ a c).trans ((jw_xic hx hy c a _ _).2 hc))⟩)
theorem jw_cmp {x y : Int} (hx : jw_rgl x) (hy : jw_rgl y) : lg_cmp (Int64.ofInt x) (Int64.ofInt y) = Int32.ofInt (if y < x then 1 else if x = y then 0 else -1) := by
  unfold lg_cmp
  by_cases h1 : y < x
  · rw [if_pos ((jw_lt64 hy hx).mpr h1), if_pos h1]
    rfl
  · rw [if_neg (fun w => h1 ((jw_lt64 hy hx).mp w)), if_neg h1]
    by_cases h2 : x = y
    · rw [if_pos ((jw_eq64 hx hy).mpr h2), if_pos h2]
      rfl
    · rw [if_neg (fun w => h2 ((jw_eq64 hx hy).mp w)), if_neg h2]
      rfl
/-- two longs compared, and the way apart behind it -/
theorem jw_W_lc {pc n a : Nat} {tg : List Nat} {x y : Int} {pc' n' a' : Nat} {off : Int} {tg' : List Nat} {c : Jvm.ClassFile.Cond} (hq : cd[i]? = some (pc, .lcmp, n, a, tg)) (hq' : cd[i + 1]? = some (pc', .ifCond c off, n', a', tg')) (hx : jw_rgl x) (hy : jw_rgl y) (k1 : jw_cc c x y → jw_W S D cd a' ls st σ Q) (k2 : ¬ jw_cc c x y → jw_W S D cd (i + 2) ls st σ Q) : jw_W S D cd i ls (.inr (.inl y) :: .inr (.inl x) :: st) σ Q := by
  have k : jw_W S D cd (i + 1) ls (.inl (if y < x then 1 else if x = y then 0 else -1) :: st) σ Q := by
    refine jw_W_if hq' ?_ (fun hc => k1 ?_) (fun hc => k2 (fun hd => hc ?_))
    · unfold jw_rg
      split
      · omega
      · split <;> omega
    · revert hc
      cases c <;> simp only [jw_cc] <;> split <;> (try split) <;> omega
    · revert hd
      cases c <;> simp only [jw_cc] <;> split <;> (try split) <;> omega
  refine jw_W_step k (fun h hh => ⟨h, hh, fun _ _ => jw_xp hq ?_⟩)
  simp only [xps, xcl, List.map_cons, jw_v, jw_cmp hx hy]
theorem jw_W_sw {pc n a : Nat} {d lo hi : Int} {offs : Array Int} {tg : List Nat} {x : Int} (hq : cd[i]? = some (pc, .tableswitch d lo hi offs, n, a, tg)) (hx : jw_rg x) (hl : tg.length = (hi - lo + 1).toNat) (k1 : (x < lo ∨ hi < x) → jw_W S D cd a ls st σ Q) (k2 : lo ≤ x → x ≤ hi → ∀ t, tg[(x - lo).toNat]? = some t → jw_W S D cd t ls st σ Q) : jw_W S D cd i ls (.inl x :: st) σ Q := by
  have e : (Int32.ofInt x).toInt = x := jw_n_id hx
  by_cases h1 : x < lo
  · refine jw_W_step (k1 (.inl h1)) (fun h hh => ⟨h, hh, fun _ _ => jw_xp hq ?_⟩)
    simp only [xps, xsw, List.map_cons, jw_v, e, if_pos h1]
  · by_cases h2 : hi < x
    · refine jw_W_step (k1 (.inr h2)) (fun h hh => ⟨h, hh, fun _ _ => jw_xp hq ?_⟩)
      simp only [xps, xsw, List.map_cons, jw_v, e, if_neg h1, if_pos h2]
    · have h3 : (x - lo).toNat < tg.length := by omega
      have h4 := List.getElem?_eq_getElem h3
      refine jw_W_step (k2 (by omega) (by omega) _ h4) (fun h hh => ⟨h, hh, fun _ _ => jw_xp hq ?_⟩)
      simp only [xps, xsw, List.map_cons, jw_v, e, if_neg h1, if_neg h2, h4]
/-! divisions -/
theorem jw_W_idiv {pc n a : Nat} {tg : List Nat} {x y : Int} (hq : cd[i]? = some (pc, .idiv, n, a, tg)) (hy : jw_rg y) (h0 : y ≠ 0) (k : jw_W S D cd (i + 1) ls (.inl (jw_div x y) :: st) σ Q) : jw_W S D cd i ls (.inl y :: .inl x :: st) σ Q := by
  refine jw_W_step k (fun h hh => ⟨h, hh, fun _ _ => jw_xp hq ?_⟩)
  have e : ¬ Int32.ofInt y = 0 := fun w => h0 ((jw_eq32 hy (y := 0) (by unfold jw_rg; omega)).mp w)
  simp only [xps, xdi, List.map_cons, jw_v, if_neg e, jw_div, Int32.ofInt_toInt]
theorem jw_W_irem {pc n a : Nat} {tg : List Nat} {x y : Int} (hq : cd[i]? = some (pc, .irem, n, a, tg)) (hy : jw_rg y) (h0 : y ≠ 0) (k : jw_W S D cd (i + 1) ls (.inl (jw_rem x y) :: st) σ Q) : jw_W S D cd i ls (.inl y :: .inl x :: st) σ Q := by
  refine jw_W_step k (fun h hh => ⟨h, hh, fun _ _ => jw_xp hq ?_⟩)
  have e : ¬ Int32.ofInt y = 0 := fun w => h0 ((jw_eq32 hy (y := 0) (by unfold jw_rg; omega)).mp w)
  simp only [xps, xdi, List.map_cons, jw_v, if_neg e, jw_rem, Int32.ofInt_toInt]
theorem jw_W_ldiv {pc n a : Nat} {tg : List Nat} {x y : Int} (hq : cd[i]? = some (pc, .ldiv, n, a, tg)) (hy : jw_rgl y) (h0 : y ≠ 0) (k : jw_W S D cd (i + 1) ls (.inr (.inl (jw_ldiv x y)) :: st) σ Q) : jw_W S D cd i ls (.inr (.inl y) :: .inr (.inl x) :: st) σ Q := by
  refine jw_W_step k (fun h hh => ⟨h, hh, fun _ _ => jw_xp hq ?_⟩)
  have e : ¬ Int64.ofInt y = 0 := fun w => h0 ((jw_eq64 hy (y := 0) (by unfold jw_rgl; omega)).mp w)
  simp only [xps, xdl, List.map_cons, jw_v, if_neg e, jw_ldiv, Int64.ofInt_toInt]
theorem jw_W_lrem {pc n a : Nat} {tg : List Nat} {x y : Int} (hq : cd[i]? = some (pc, .lrem, n, a, tg)) (hy : jw_rgl y) (h0 : y ≠ 0) (k : jw_W S D cd (i + 1) ls (.inr (.inl (jw_lrem x y)) :: st) σ Q) : jw_W S D cd i ls (.inr (.inl y) :: .inr (.inl x) :: st) σ Q := by
  refine jw_W_step k (fun h hh => ⟨h, hh, fun _ _ => jw_xp hq ?_⟩)
  have e : ¬ Int64.ofInt y = 0 := fun w => h0 ((jw_eq64 hy (y := 0) (by unfold jw_rgl; omega)).mp w)
  simp only [xps, xdl, List.map_cons, jw_v, if_neg e, jw_lrem, Int64.ofInt_toInt]
/-! the store -/
theorem jw_f_get : ∀ (ks : List Nat) (j k : Nat) (g : Int → Int), (jw_f ks j g)[k]? = (ks[k]?).map (fun kd => jw_v (jw_k kd (g ((j + k : Nat) : Int))))
  | [], _, _, _ => rfl
  | kd :: ks, j, 0, g => rfl
  | kd :: ks, j, k + 1, g => by
    have e : j + (k + 1) = j + 1 + k := by omega
    show (jw_f ks (j + 1) g)[k]? = _
    rw [jw_f_get ks (j + 1) k g, e]
    rfl
theorem jw_f_len : ∀ (ks : List Nat) (j : Nat) (g : Int → Int), (jw_f ks j g).length = ks.length
  | [], _, _ => rfl
  | _ :: ks, j, g => by
    show (jw_f ks (j + 1) g).length + 1 = _
    rw [jw_f_len ks (j + 1) g]
    rfl
theorem jw_f_set {ks : List Nat} {g : Int → Int} {k kd : Nat} {a : Int} (hk : ks[k]? = some kd) : jw_f ks 0 (fun j => if j = (k : Int) then a else g j) = (jw_f ks 0 g).set k (jw_v (jw_k kd a)) := by
  apply List.ext_getElem?
  intro n
  rw [List.getElem?_set, jw_f_get, jw_f_get, jw_f_len]
  by_cases hn : k = n
  · subst hn
    have hl : k < ks.length := (List.getElem?_eq_some_iff.mp hk).1
    rw [if_pos rfl, if_pos hl, hk]
    simp only [Option.map_some, Nat.zero_add, if_true]
  · rw [if_neg hn]
    have e : ¬ (((0 + n : Nat) : Int) = (k : Int)) := by omega
    simp only [if_neg e]
theorem jw_ri_get (n : Nat) (g : Int → Int) {j : Int} (h0 : 0 ≤ j) (h1 : j < n) : (jw_ri n g)[j.toNat]? = some (Int32.ofInt (g j)) := by
  unfold jw_ri
  rw [List.getElem?_map, List.getElem?_range (by omega)]
  simp only [Option.map_some, Int.toNat_of_nonneg h0]
theorem jw_rl_get (n : Nat) (g : Int → Int) {j : Int} (h0 : 0 ≤ j) (h1 : j < n) : (jw_rl n g)[j.toNat]? = some (Int64.ofInt (g j)) := by
  unfold jw_rl
  rw [List.getElem?_map, List.getElem?_range (by omega)]
  simp only [Option.map_some, Int.toNat_of_nonneg h0]
theorem jw_rr_get (n b : Nat) {j : Int} (h0 : 0 ≤ j) (h1 : j < n) : (jw_rr n b)[j.toNat]? = some (b + j.toNat) := by
  unfold jw_rr
  rw [List.getElem?_map, List.getElem?_range (by omega)]
  simp only [Option.map_some]
theorem jw_map_set {α : Type} (n : Nat) (w : Int → α) (g : Int → Int) {j a : Int} (h0 : 0 ≤ j) (v : α) (hv : ∀ x : Int, x = j → w a = v) : (List.range n).map (fun (m : Nat) => w (if (m : Int) = j then a else g (m : Int))) = ((List.range n).map (fun (m : Nat) => w (g (m : Int)))).set j.toNat (w a) := by
  apply List.ext_getElem?
  intro m
  rw [List.getElem?_set, List.getElem?_map, List.getElem?_map, List.length_map, List.length_range]
  by_cases hm : j.toNat = m
  · subst hm
    rw [if_pos rfl]
    by_cases hl : j.toNat < n
    · rw [if_pos hl, List.getElem?_range hl]
      simp only [Option.map_some, Int.toNat_of_nonneg h0, if_true]
    · rw [if_neg hl, List.getElem?_eq_none (by rw [List.length_range]; omega)]
      rfl
  · rw [if_neg hm]
    by_cases hl : m < n
    · rw [List.getElem?_range hl]
      have e : ¬ ((m : Int) = j) := by omega
      simp only [Option.map_some, if_neg e]
    · rw [List.getElem?_eq_none (by rw [List.length_range]; omega)]
      rfl
theorem jw_up_in (σ : jw_H) (o : Nat) (j v : Int) : jw_up σ o j v o = fun j' => if j' = j then v else σ o j' := by
  funext j'
  simp only [jw_up, true_and]
theorem jw_up_out (σ : jw_H) {o o' : Nat} (j v : Int) (h : o' ≠ o) : jw_up σ o j v o' = σ o' := by
  funext j'
  simp only [jw_up, h, false_and, if_false]
theorem jw_ok_up {h : xH} {o : Nat} {s : jw_S} {j v : Int} {c : xC} (hh : jw_ok S σ h) (hs : S[o]? = some s) (hc : jw_c s (fun j' => if j' = j then v else σ o j') = c) : jw_ok S (jw_up σ o j v) (h.set o c) := by
  refine ⟨by rw [List.length_set]; exact hh.1, fun o' s' hs' => ?_⟩
  by_cases ho : o' = o
  · subst ho
    rw [hs] at hs'
    cases hs'
    have hl : o' < h.length := by
      rw [hh.1]
      exact (List.getElem?_eq_some_iff.mp hs).1
    rw [List.getElem?_set_self hl, jw_up_in, hc]
  · rw [List.getElem?_set_ne (fun w => ho w.symm), jw_up_out σ j v ho]
    exact hh.2 o' s' hs'
theorem jw_W_gf {pc ix n k c o kd : Nat} {ks : List Nat} (hq : cd[i]? = some (pc, .getfield ix, n, k, [c])) (hs : S[o]? = some (.inl (c, ks))) (hk : ks[k]? = some kd) (kk : jw_W S D cd (i + 1) ls (jw_k kd (σ o (k : Int)) :: st) σ Q) : jw_W S D cd i ls (.inr (.inr o) :: st) σ Q := by
  refine jw_W_step kk (fun h hh => ⟨h, hh, fun _ _ => jw_xh hq rfl ?_⟩)
  have e := hh.2 o _ hs
  have e2 := jw_f_get ks 0 k (σ o)
  rw [hk, Nat.zero_add] at e2
  simp only [xhs, xgf, List.map_cons, jw_v, e, jw_c, List.headD, if_true, e2, Option.map_some]
theorem jw_W_pf {pc ix n k c o kd : Nat} {ks : List Nat} {a : Int} {v : jw_V} (hq : cd[i]? = some (pc, .putfield ix, n, k, [c])) (ho : 13 ≤ o) (hs : S[o]? = some (.inl (c, ks))) (hk : ks[k]? = some kd) (hv : v = jw_k kd a) (hf : fits ((xft.getD c []).getD k .int) (jw_v v) = true) (hn : narrow ((xft.getD c []).getD k .int) (jw_v v) = jw_v v) (kk : jw_W S D cd (i + 1) ls st (jw_up σ o (k : Int) a) Q) : jw_W S D cd i ls (v :: .inr (.inr o) :: st) σ Q := by
  have hl : k < ks.length := (List.getElem?_eq_some_iff.mp hk).1
  refine jw_W_step kk (fun h hh => ⟨h.set o (.inl (c, (jw_f ks 0 (σ o)).set k (jw_v v))), jw_ok_up hh hs ?_, fun _ _ => jw_xh hq rfl ?_⟩)
  · show (Sum.inl (c, _) : xC) = _
    rw [jw_f_set hk, hv]
  · have e := hh.2 o _ hs
    have hcd : c = c ∧ 13 ≤ o ∧ k < (jw_f ks 0 (σ o)).length ∧ fits ((xft.getD c []).getD k .int) (jw_v v) = true ∧ narrow ((xft.getD c []).getD k .int) (jw_v v) = jw_v v := ⟨rfl, ho, by rw [jw_f_len]; exact hl, hf, hn⟩
    show xpf ((xft.getD c []).getD k .int) k c (jw_v v :: .ref o :: st.map jw_v) h = _
    unfold xpf
    simp only [e, jw_c]
    exact if_pos ⟨trivial, hcd.2⟩
theorem jw_ix {j : Int} (h0 : 0 ≤ j) (h1 : j < 100000) : ¬ Int32.ofInt j < 0 ∧ (Int32.ofInt j).toNatClampNeg = j.toNat := by
  have e : (Int32.ofInt j).toInt = j := jw_n_id ⟨by omega, by omega⟩
  refine ⟨fun h => ?_, ?_⟩
  · rw [Int32.lt_iff_toInt_lt, e] at h
    have : (0 : Int32).toInt = 0 := rfl
    omega
  · rw [← Int32.toNat_toInt, e]
theorem jw_W_ia {pc n a : Nat} {tg : List Nat} {o len : Nat} {j : Int} (hq : cd[i]? = some (pc, .iaload, n, a, tg)) (hs : S[o]? = some (.inr (0, len))) (h0 : 0 ≤ j) (h1 : j < len) (h2 : j < 100000) (kk : jw_W S D cd (i + 1) ls (.inl (σ o j) :: st) σ Q) : jw_W S D cd i ls (.inl j :: .inr (.inr o) :: st) σ Q := by
  refine jw_W_step kk (fun h hh => ⟨h, hh, fun _ _ => jw_xh hq rfl ?_⟩)
  have e := hh.2 o _ hs
  obtain ⟨e1, e2⟩ := jw_ix h0 h2
  have e3 := jw_ri_get len (σ o) h0 h1
  simp only [xhs, xia, List.map_cons, jw_v, e, jw_c, e1, e2, e3, true_or, not_false_eq_true, and_self, if_true]
theorem jw_W_ba {pc n a t : Nat} {tg : List Nat} {o len : Nat} {j : Int} (hq : cd[i]? = some (pc, .baload, n, a, tg)) (hs : S[o]? = some (.inr (t, len))) (ht : t = 1 ∨ t = 2) (h0 : 0 ≤ j) (h1 : j < len) (h2 : j < 100000) (kk : jw_W S D cd (i + 1) ls (.inl (σ o j) :: st) σ Q) : jw_W S D cd i ls (.inl j :: .inr (.inr o) :: st) σ Q := by
  refine jw_W_step kk (fun h hh => ⟨h, hh, fun _ _ => jw_xh hq rfl ?_⟩)
  have e := hh.2 o _ hs
  obtain ⟨e1, e2⟩ := jw_ix h0 h2
  have e3 := jw_ri_get len (σ o) h0 h1
  rcases ht with rfl | rfl <;> simp only [xhs, xia, List.map_cons, jw_v, e, jw_c, e1, e2, e3, true_or, or_true, not_false_eq_true, and_self, if_true]
theorem jw_W_la {pc n a : Nat} {tg : List Nat} {o len : Nat} {j : Int} (hq : cd[i]? = some (pc, .laload, n, a, tg)) (hs : S[o]? = some (.inr (3, len))) (h0 : 0 ≤ j) (h1 : j < len) (h2 : j < 100000) (kk : jw_W S D cd (i + 1) ls (.inr (.inl (σ o j)) :: st) σ Q) : jw_W S D cd i ls (.inl j :: .inr (.inr o) :: st) σ Q := by
  refine jw_W_step kk (fun h hh => ⟨h, hh, fun _ _ => jw_xh hq rfl ?_⟩)
  have e := hh.2 o _ hs
  obtain ⟨e1, e2⟩ := jw_ix h0 h2
  have e3 := jw_rl_get len (σ o) h0 h1
  simp only [xhs, xla, List.map_cons, jw_v, e, jw_c, e1, e2, e3, not_false_eq_true, if_true]
theorem jw_W_aa {pc n a b : Nat} {tg : List Nat} {o len : Nat} {j : Int} (hq : cd[i]? = some (pc, .aaload, n, a, tg)) (hs : S[o]? = some (.inr (b + 4, len))) (h0 : 0 ≤ j) (h1 : j < len) (h2 : j < 100000) (kk : jw_W S D cd (i + 1) ls (.inr (.inr (b + j.toNat)) :: st) σ Q) : jw_W S D cd i ls (.inl j :: .inr (.inr o) :: st) σ Q := by
  refine jw_W_step kk (fun h hh => ⟨h, hh, fun _ _ => jw_xh hq rfl ?_⟩)
  have e := hh.2 o _ hs
  obtain ⟨e1, e2⟩ := jw_ix h0 h2
  have e3 := jw_rr_get len b h0 h1
  simp only [xhs, xaa, List.map_cons, jw_v, e, jw_c, e1, e2, e3, not_false_eq_true, if_true]
theorem jw_W_is {pc n a : Nat} {tg : List Nat} {o len : Nat} {j x : Int} (hq : cd[i]? = some (pc, .iastore, n, a, tg)) (ho : 13 ≤ o) (hs : S[o]? = some (.inr (0, len))) (h0 : 0 ≤ j) (h1 : j < len) (h2 : j < 100000) (kk : jw_W S D cd (i + 1) ls st (jw_up σ o j x) Q) : jw_W S D cd i ls (.inl x :: .inl j :: .inr (.inr o) :: st) σ Q := by
  obtain ⟨e1, e2⟩ := jw_ix h0 h2
  refine jw_W_step kk (fun h hh => ⟨h.set o (.inr (.inl (0, (jw_ri len (σ o)).set j.toNat (Int32.ofInt x)))), jw_ok_up hh hs ?_, fun _ _ => jw_xh hq rfl ?_⟩)
  · show (Sum.inr (Sum.inl (0, _)) : xC) = _
    unfold jw_ri
    rw [jw_map_set len Int32.ofInt (σ o) h0 (Int32.ofInt x) (fun _ _ => rfl)]
  · have e := hh.2 o _ hs
    have hl : j.toNat < (jw_ri len (σ o)).length := by
      unfold jw_ri
      rw [List.length_map, List.length_range]
      omega
    simp only [xhs, xis, List.map_cons, jw_v, e, jw_c, e1, e2, ho, hl, not_false_eq_true, and_self, if_true]
theorem jw_W_bs {pc n a : Nat} {tg : List Nat} {o len : Nat} {j x : Int} (hq : cd[i]? = some (pc, .bastore, n, a, tg)) (ho : 13 ≤ o) (hs : S[o]? = some (.inr (1, len))) (h0 : 0 ≤ j) (h1 : j < len) (h2 : j < 100000) (kk : jw_W S D cd (i + 1) ls st (jw_up σ o j (jw_b x)) Q) : jw_W S D cd i ls (.inl x :: .inl j :: .inr (.inr o) :: st) σ Q := by
  obtain ⟨e1, e2⟩ := jw_ix h0 h2
  refine jw_W_step kk (fun h hh => ⟨h.set o (.inr (.inl (1, (jw_ri len (σ o)).set j.toNat (Int32.ofInt (jw_b x))))), jw_ok_up hh hs ?_, fun _ _ => jw_xh hq rfl ?_⟩)
  · show (Sum.inr (Sum.inl (1, _)) : xC) = _
    unfold jw_ri
    rw [jw_map_set len Int32.ofInt (σ o) h0 (Int32.ofInt (jw_b x)) (fun _ _ => rfl)]
  · have e := hh.2 o _ hs
    have hl : j.toNat < (jw_ri len (σ o)).length := by
      unfold jw_ri
      rw [List.length_map, List.length_range]
      omega
    have e3 : Int32.ofInt (jw_b x) = (Int32.ofInt x).toInt8.toInt32 := Int32.ofInt_toInt _
    simp only [xhs, xis, List.map_cons, jw_v, e, jw_c, e1, e2, e3, ho, hl, not_false_eq_true, and_self, if_true]
theorem jw_W_ls {pc n a : Nat} {tg : List Nat} {o len : Nat} {j x : Int} (hq : cd[i]? = some (pc, .lastore, n, a, tg)) (ho : 13 ≤ o) (hs : S[o]? = some (.inr (3, len))) (h0 : 0 ≤ j) (h1 : j < len) (h2 : j < 100000) (kk : jw_W S D cd (i + 1) ls st (jw_up σ o j x) Q) : jw_W S D cd i ls (.inr (.inl x) :: .inl j :: .inr (.inr o) :: st) σ Q := by
  obtain ⟨e1, e2⟩ := jw_ix h0 h2
  refine jw_W_step kk (fun h hh => ⟨h.set o (.inr (.inr (.inl ((jw_rl len (σ o)).set j.toNat (Int64.ofInt x))))), jw_ok_up hh hs ?_, fun _ _ => jw_xh hq rfl ?_⟩)
  · show (Sum.inr (Sum.inr (Sum.inl _)) : xC) = _
    unfold jw_rl
    rw [jw_map_set len Int64.ofInt (σ o) h0 (Int64.ofInt x) (fun _ _ => rfl)]
  · have e := hh.2 o _ hs
    have hl : j.toNat < (jw_rl len (σ o)).length := by
      unfold jw_rl
      rw [List.length_map, List.length_range]
      omega
    simp only [xhs, xls, List.map_cons, jw_v, e, jw_c, e1, e2, ho, hl, not_false_eq_true, and_self, if_true]
theorem jw_len32 (n : Nat) : Int32.ofNat n = Int32.ofInt (n : Int) := (Int32.ofInt_eq_ofNat).symm
theorem jw_W_al {pc n a t : Nat} {tg : List Nat} {o len : Nat} (hq : cd[i]? = some (pc, .arraylength, n, a, tg)) (hs : S[o]? = some (.inr (t, len))) (kk : jw_W S D cd (i + 1) ls (.inl (len : Int) :: st) σ Q) : jw_W S D cd i ls (.inr (.inr o) :: st) σ Q := by
  refine jw_W_step kk (fun h hh => ⟨h, hh, fun _ _ => jw_xh hq rfl ?_⟩)
  have e := hh.2 o _ hs
  match t, e with
  | 0, e => simp only [xhs, xal, List.map_cons, jw_v, e, jw_c, jw_ri, List.length_map, List.length_range, jw_len32]
  | 1, e => simp only [xhs, xal, List.map_cons, jw_v, e, jw_c, jw_ri, List.length_map, List.length_range, jw_len32]
  | 2, e => simp only [xhs, xal, List.map_cons, jw_v, e, jw_c, jw_ri, List.length_map, List.length_range, jw_len32]
  | 3, e => simp only [xhs, xal, List.map_cons, jw_v, e, jw_c, jw_rl, List.length_map, List.length_range, jw_len32]
  | b + 4, e => simp only [xhs, xal, List.map_cons, jw_v, e, jw_c, jw_rr, List.length_map, List.length_range, jw_len32]
theorem jw_W_ldc {pc ix n a : Nat} {z : Int} (hq : cd[i]? = some (pc, .ldc ix, n, a, [])) (hz : Int32.ofNat a = Int32.ofInt z) (kk : jw_W S D cd (i + 1) ls (.inl z :: st) σ Q) : jw_W S D cd i ls st σ Q := by
  refine jw_W_step kk (fun h hh => ⟨h, hh, fun _ _ => jw_xh hq rfl ?_⟩)
  simp only [xhs, xci, List.map_cons, jw_v, hz]
theorem jw_W_ldw {pc ix n a : Nat} {z : Int} (hq : cd[i]? = some (pc, .ldc_w ix, n, a, [])) (hz : Int32.ofNat a = Int32.ofInt z) (kk : jw_W S D cd (i + 1) ls (.inl z :: st) σ Q) : jw_W S D cd i ls st σ Q := by
  refine jw_W_step kk (fun h hh => ⟨h, hh, fun _ _ => jw_xh hq rfl ?_⟩)
  simp only [xhs, List.map_cons, jw_v, hz]
theorem jw_W_lds {pc ix n a t : Nat} {tg : List Nat} (hq : cd[i]? = some (pc, .ldc ix, n, a, t :: tg)) (kk : jw_W S D cd (i + 1) ls (.inr (.inr a) :: st) σ Q) : jw_W S D cd i ls st σ Q := by
  refine jw_W_step kk (fun h hh => ⟨h, hh, fun _ _ => jw_xh hq rfl ?_⟩)
  simp only [xhs, xci, List.map_cons, jw_v]
theorem jw_W_ld2 {pc ix n a : Nat} {tg : List Nat} {z : Int} (hq : cd[i]? = some (pc, .ldc2_w ix, n, a, tg)) (hz : Int64.ofNat a = Int64.ofInt z) (kk : jw_W S D cd (i + 1) ls (.inr (.inl z) :: st) σ Q) : jw_W S D cd i ls st σ Q := by
  refine jw_W_step kk (fun h hh => ⟨h, hh, fun _ _ => jw_xh hq rfl ?_⟩)
  simp only [xhs, List.map_cons, jw_v, hz]
/-! ends -/
theorem jw_xe {call : Nat → List Value → xH → xR} {f pc n a : Nat} {tg : List Nat} {ins : Instr} {L : xL} {st : List Value} {h : xH} (hq : cd[i]? = some (pc, ins, n, a, tg)) (h0 : xps i a tg L st ins = none) (h1 : xhs xft a tg st h ins = none) (h2 : xisc ins = false) : xrun xft xP call cd (f + 1) i L st h = xend st h ins := by
  rw [xrun, hq]
  simp only [h0, h1, h2]
theorem jw_W_ir {pc n a : Nat} {tg : List Nat} {x : Int} (hq : cd[i]? = some (pc, .ireturn, n, a, tg)) (hQ : Q (some (.inl x)) σ) : jw_W S D cd i ls [.inl x] σ Q := fun h hh => ⟨1, some (.inl x), σ, h, hh, hQ, fun F f d hF hf hd => by
  obtain ⟨f', rfl⟩ : ∃ f', f = f' + 1 := ⟨f - 1, by omega⟩
  rw [jw_xe hq rfl rfl rfl]
  rfl⟩
theorem jw_W_lr {pc n a : Nat} {tg : List Nat} {x : Int} (hq : cd[i]? = some (pc, .lreturn, n, a, tg)) (hQ : Q (some (.inr (.inl x))) σ) : jw_W S D cd i ls [.inr (.inl x)] σ Q := fun h hh => ⟨1, some (.inr (.inl x)), σ, h, hh, hQ, fun F f d hF hf hd => by
  obtain ⟨f', rfl⟩ : ∃ f', f = f' + 1 := ⟨f - 1, by omega⟩
  rw [jw_xe hq rfl rfl rfl]
  rfl⟩
theorem jw_W_re {pc n a : Nat} {tg : List Nat} (hq : cd[i]? = some (pc, .return_, n, a, tg)) (hQ : Q none σ) : jw_W S D cd i ls [] σ Q := fun h hh => ⟨1, none, σ, h, hh, hQ, fun F f d hF hf hd => by
  obtain ⟨f', rfl⟩ : ∃ f', f = f' + 1 := ⟨f - 1, by omega⟩
  rw [jw_xe hq rfl rfl rfl]
  rfl⟩
end JWR

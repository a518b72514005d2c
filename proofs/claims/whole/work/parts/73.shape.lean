/-! ===== the store behind the constructors: its shape, its numbers ===== -/
def js_S1 : List jw_S := [.inl (1000, [5, 0]),
  .inr (2, 7),
  .inl (1000, [7, 0]),
  .inr (2, 2),
  .inl (1000, [9, 0]),
  .inr (2, 4),
  .inl (1000, [11, 0]),
  .inr (2, 5),
  .inl (1000, [13, 0]),
  .inr (2, 4),
  .inl (1000, [15, 0]),
  .inr (2, 3),
  .inl (9, [17, 0, 2, 2, 30, 0, 36, 45, 50, 60, 95, 101, 102, 103, 104, 105, 0]),
  .inr (0, 260),
  .inl (4, [0, 0, 0, 19, 20, 21, 22, 23]),
  .inr (0, 9),
  .inr (0, 12),
  .inr (0, 4),
  .inr (0, 4),
  .inr (0, 3),
  .inl (4, [0, 0, 0, 25, 26, 27, 28, 29]),
  .inr (0, 9),
  .inr (0, 12),
  .inr (0, 4),
  .inr (0, 4),
  .inr (0, 3),
  .inl (4, [0, 0, 0, 31, 32, 33, 34, 35]),
  .inr (0, 9),
  .inr (0, 12),
  .inr (0, 4),
  .inr (0, 4),
  .inr (0, 3),
  .inl (5, [37, 0, 2]),
  .inl (8, [0, 0, 0, 2]),
  .inr (0, 0),
  .inl (4, [0, 0, 0, 40, 41, 42, 43, 44]),
  .inr (0, 9),
  .inr (0, 12),
  .inr (0, 4),
  .inr (0, 4),
  .inr (0, 3),
  .inl (2, [0, 0, 0, 46, 48, 0, 49, 0, 0, 0]),
  .inl (8, [0, 0, 0, 2]),
  .inr (0, 0),
  .inr (0, 240),
  .inr (0, 7),
  .inl (7, [51, 0, 56, 57, 58, 59]),
  .inl (3, [0, 52, 53, 54, 55]),
  .inr (0, 64),
  .inr (0, 64),
  .inr (0, 64),
  .inr (0, 64),
  .inr (0, 24),
  .inr (0, 24),
  .inr (0, 24),
  .inr (0, 24),
  .inl (0, [0, 61, 66, 67, 68, 69, 2, 50, 94, 0]),
  .inl (3, [0, 62, 63, 64, 65]),
  .inr (0, 64),
  .inr (0, 64),
  .inr (0, 64),
  .inr (0, 64),
  .inr (0, 24),
  .inr (0, 24),
  .inr (0, 24),
  .inr (71, 24),
  .inr (0, 24),
  .inr (0, 24),
  .inr (0, 24),
  .inr (0, 24),
  .inr (0, 24),
  .inr (0, 24),
  .inr (0, 24),
  .inr (0, 24),
  .inr (0, 24),
  .inr (0, 24),
  .inr (0, 24),
  .inr (0, 24),
  .inr (0, 24),
  .inr (0, 24),
  .inr (0, 24),
  .inr (0, 24),
  .inr (0, 24),
  .inr (0, 24),
  .inr (0, 24),
  .inr (0, 24),
  .inr (0, 24),
  .inr (0, 24),
  .inr (0, 24),
  .inr (0, 24),
  .inr (0, 24),
  .inl (6, [96, 97, 0, 98, 99, 100]),
  .inl (1, [1, 1]),
  .inl (1, [1, 1]),
  .inr (3, 64),
  .inr (3, 64),
  .inl (1, [1, 1]),
  .inl (1, [1, 1]),
  .inl (1, [1, 1]),
  .inr (0, 3),
  .inr (0, 3),
  .inr (0, 64),
  .inl (10, [107, 108, 109, 0, 0, 0, 110, 0, 0, 0, 0, 0, 0, 0, 0, 0, 0, 111, 112, 113, 114, 115, 116, 117, 118, 119, 120, 121, 122, 123, 124, 125, 126, 127, 0, 0, 0, 0, 0, 0, 128, 129, 130, 131, 132, 133, 0, 134, 135, 136, 137, 138, 139, 140, 141, 142, 0, 0, 0, 0, 1, 1, 1, 1, 143, 144, 0, 145, 1, 1, 1, 1, 146, 0, 147, 0]),
  .inr (0, 9),
  .inr (0, 20),
  .inr (0, 3),
  .inr (1, 260),
  .inr (0, 260),
  .inr (0, 260),
  .inr (0, 16),
  .inr (0, 16),
  .inr (0, 16),
  .inr (0, 16),
  .inr (0, 260),
  .inr (0, 16),
  .inr (0, 16),
  .inr (0, 16),
  .inr (0, 16),
  .inr (0, 260),
  .inr (0, 7),
  .inr (0, 9),
  .inr (0, 20),
  .inr (0, 3),
  .inr (0, 3),
  .inr (3, 64),
  .inr (3, 64),
  .inr (3, 64),
  .inr (3, 64),
  .inr (3, 64),
  .inr (0, 64),
  .inr (0, 60),
  .inr (3, 32),
  .inr (3, 32),
  .inr (3, 32),
  .inr (3, 32),
  .inr (0, 32),
  .inr (0, 32),
  .inr (0, 32),
  .inr (0, 32),
  .inr (3, 512),
  .inr (3, 512),
  .inr (0, 3),
  .inr (0, 80),
  .inr (0, 35)]
def js_S (n : Nat) : List jw_S := .inr (0, n) :: js_S1
def js_T : List (List Int) := [[2],
  [105, 97, 98, 99, 116, 110, 101],
  [4],
  [111, 102],
  [6],
  [119, 105, 115, 104],
  [8],
  [108, 101, 97, 115, 116],
  [10],
  [107, 101, 101, 112],
  [12],
  [98, 111, 120],
  [14, 0, 15, 21, 27, 0, 33, 42, 47, 57, 92, 98, 99, 100, 101, 102],
  [],
  [1, 0, 0, 16, 17, 18, 19, 20],
  [],
  [],
  [],
  [],
  [9, 9, 9],
  [1, 0, 0, 22, 23, 24, 25, 26],
  [],
  [],
  [],
  [],
  [9, 9, 9],
  [1, 0, 0, 28, 29, 30, 31, 32],
  [],
  [],
  [],
  [],
  [9, 9, 9],
  [34, 0, 36],
  [0, 0, 0, 35],
  [],
  [1, 0, 0, 37, 38, 39, 40, 41],
  [],
  [],
  [],
  [],
  [9, 9, 9],
  [0, 0, 0, 43, 45, 0, 46],
  [0, 0, 0, 44],
  [],
  [],
  [],
  [48, 4, 53, 54, 55, 56],
  [2, 49, 50, 51, 52],
  [0, 9],
  [],
  [],
  [1, 1],
  [(-1), 1],
  [0, 0, (-1)],
  [0, 0, 0, (-1)],
  [0, 9],
  [2, 58, 63, 64, 65, 66, 15, 47, 91],
  [2, 59, 60, 61, 62],
  [0, 9],
  [],
  [],
  [1, 1],
  [1, 2],
  [],
  [],
  [67, 68, 69, 70, 71, 72, 73, 74, 75, 76, 77, 78, 79, 80, 81, 82, 83, 84, 85, 86, 87, 88, 89, 90],
  [],
  [],
  [],
  [],
  [],
  [],
  [],
  [],
  [],
  [],
  [],
  [],
  [],
  [],
  [],
  [],
  [],
  [],
  [],
  [],
  [],
  [],
  [],
  [],
  [],
  [93, 94, 0, 95, 96, 97],
  [0, 1],
  [0, 1],
  [],
  [],
  [0, 1],
  [0, 1],
  [0, 1],
  [],
  [],
  [],
  [104, 105, 106, 1, 0, 0, 107, 0, 0, 0, 0, 0, 0, 0, 0, 0, 0, 108, 109, 110, 111, 112, 113, 114, 115, 116, 117, 118, 119, 120, 121, 122, 123, 124, 0, 0, 0, 0, 0, 0, 125, 126, 127, 128, 129, 130, 2, 131, 132, 133, 134, 135, 136, 137, 138, 139, 2, 3, 3, 1, 0, 0, 0, 0, 140, 141, 0, 142, 0, 0, 0, 0, 143, 0, 144],
  [],
  [],
  [9, 9, 9],
  [],
  [],
  [],
  [],
  [],
  [],
  [],
  [],
  [],
  [],
  [],
  [],
  [],
  [],
  [],
  [],
  [],
  [],
  [0, 18],
  [],
  [],
  [1, 1],
  [],
  [1, 2],
  [1, 0, 0, 1],
  [0, 9],
  [],
  [],
  [1, 1],
  [1, 2],
  [2, 1],
  [2, 1],
  [],
  [],
  [],
  [],
  [],
  []]
def js_t (o : Nat) (j : Int) : Int := match js_T[o]? with
  | some r => if j < 0 then 0 else (match r[j.toNat]? with
    | some v => v
    | none => 0)
  | none => 0
def js_0 (scr : List Int32) : jw_H := fun o j => match o with
  | 0 => (match scr[j.toNat]? with
    | some x => x.toInt
    | none => 0)
  | o + 1 => js_t o j
/-- a cell that is known whole -/
def js_v : List aV → Option (List Value)
  | [] => some []
  | .inl v :: r => match js_v r with
    | some vs => some (v :: vs)
    | none => none
  | .inr _ :: _ => none
def js_n : List aN → Option (List Int32)
  | [] => some []
  | .inl v :: r => match js_n r with
    | some vs => some (v :: vs)
    | none => none
  | .inr _ :: _ => none
def js_c : aC → Option xC
  | .inl (c, vs) => if c = 2000 then none else (match js_v vs with
    | some ws => some (.inl (c, ws))
    | none => none)
  | .inr (.inl (t, xs)) => (match js_n xs with
    | some ys => some (.inr (.inl (t, ys)))
    | none => none)
  | .inr (.inr (.inl xs)) => some (.inr (.inr (.inl xs)))
  | .inr (.inr (.inr xs)) => some (.inr (.inr (.inr xs)))
theorem js_v_ok : ∀ {as : List aV} {vs ws : List Value}, js_v as = some vs → gA gV as ws → ws = vs
  | [], vs, [], h, _ => by
    cases h
    rfl
  | .inl v :: r, vs, w :: ws, h, g => by
    unfold js_v at h
    split at h
    · rename_i us hu
      cases h
      rw [show w = v from g.1, js_v_ok hu g.2]
    · cases h
  | .inr _ :: _, _, _, h, _ => by cases h
  | .inl _ :: _, _, [], _, g => g.elim
  | [], _, _ :: _, _, g => g.elim
theorem js_n_ok : ∀ {as : List aN} {vs ws : List Int32}, js_n as = some vs → gA gN as ws → ws = vs
  | [], vs, [], h, _ => by
    cases h
    rfl
  | .inl v :: r, vs, w :: ws, h, g => by
    unfold js_n at h
    split at h
    · rename_i us hu
      cases h
      rw [show w = v from g.1, js_n_ok hu g.2]
    · cases h
  | .inr _ :: _, _, _, h, _ => by cases h
  | .inl _ :: _, _, [], _, g => g.elim
  | [], _, _ :: _, _, g => g.elim
theorem js_c_ok {a : aC} {c c' : xC} (h : js_c a = some c) (g : gD a c') : c' = c := by
  match a, h with
  | .inl (k, vs), h =>
    simp only [js_c] at h
    split at h
    · cases h
    · rename_i hk
      split at h
      · rename_i ws hw
        cases h
        obtain ⟨us, e, g⟩ := gD_ob g (fun q => hk q.1)
        rw [e, js_v_ok hw g]
      · cases h
  | .inr (.inl (t, xs)), h =>
    simp only [js_c] at h
    split at h
    · rename_i ys hy
      cases h
      obtain ⟨us, e, g⟩ := gD_ai g
      rw [e, js_n_ok hy g]
    · cases h
  | .inr (.inr (.inl xs)), h =>
    cases h
    exact gD_al g
  | .inr (.inr (.inr xs)), h =>
    cases h
    exact gD_ar g
def js_eqv : Value → Value → Bool
  | .int x, .int y => x == y
  | .long x, .long y => x == y
  | .ref x, .ref y => x == y
  | _, _ => false
theorem js_eqv_ok (a b : Value) (h : js_eqv a b = true) : a = b := by
  unfold js_eqv at h
  split at h
  · rw [eq_of_beq h]
  · rw [eq_of_beq h]
  · rw [eq_of_beq h]
  · cases h
def js_eq : xC → xC → Bool
  | .inl (c, vs), .inl (d, ws) => c == d && eqL js_eqv vs ws
  | .inr (.inl (t, xs)), .inr (.inl (u, ys)) => t == u && xs == ys
  | .inr (.inr (.inl xs)), .inr (.inr (.inl ys)) => xs == ys
  | .inr (.inr (.inr xs)), .inr (.inr (.inr ys)) => xs == ys
  | _, _ => false
theorem js_eq_ok (a b : xC) (h : js_eq a b = true) : a = b := by
  unfold js_eq at h
  split at h
  · rw [Bool.and_eq_true] at h
    rw [eq_of_beq h.1, eqL_ok js_eqv_ok _ _ h.2]
  · rw [Bool.and_eq_true] at h
    rw [eq_of_beq h.1, eq_of_beq h.2]
  · rw [eq_of_beq h]
  · rw [eq_of_beq h]
  · cases h
def js_all : List aC → List jw_S → Nat → Bool
  | [], [], _ => true
  | a :: as, s :: ss, o => (match js_c a with
    | some c => js_eq c (jw_c s (js_t o))
    | none => false) && js_all as ss (o + 1)
  | _, _, _ => false
theorem js_all_ok : ∀ (as : List aC) (ss : List jw_S) (o : Nat) (h : xH), js_all as ss o = true → gH as h → h.length = ss.length ∧ ∀ (k : Nat) (s : jw_S), ss[k]? = some s → h[k]? = some (jw_c s (js_t (o + k)))
  | [], [], o, [], _, _ => ⟨rfl, fun k s hs => by simp at hs⟩
  | a :: as, s :: ss, o, c' :: h, e, g => by
    unfold js_all at e
    rw [Bool.and_eq_true] at e
    obtain ⟨e1, e2⟩ := e
    obtain ⟨i1, i2⟩ := js_all_ok as ss (o + 1) h e2 g.2
    split at e1
    · rename_i c hc
      refine ⟨by rw [List.length_cons, List.length_cons, i1], fun k s' hs => ?_⟩
      cases k with
      | zero =>
        cases hs
        rw [js_c_ok hc g.1]
        exact congrArg some (js_eq_ok _ _ e1)
      | succ k =>
        have := i2 k s' hs
        rw [show o + 1 + k = o + (k + 1) by omega] at this
        exact this
    · cases e1
  | [], _ :: _, _, _, e, _ => by cases e
  | _ :: _, [], _, _, e, _ => by cases e
  | [], [], _, _ :: _, _, g => g.elim
  | _ :: _, _ :: _, _, [], _, g => g.elim
set_option maxRecDepth 100000 in
theorem js_chk : js_all (ah1.flatten.drop 1) js_S1 0 = true := by decide +kernel
/-- the heap at the law's loop is this store -/
theorem js_start {scr : List Int32} {h1 : xH} (g : gH ah1.flatten h1) (h0 : h1[0]? = some (.inr (.inl (0, scr)))) : jw_ok (js_S scr.length) (js_0 scr) h1 := by
  have e : ah1.flatten = ah1.flatten.take 1 ++ ah1.flatten.drop 1 := (List.take_append_drop 1 _).symm
  match h1, g, h0 with
  | [], _, h0 => cases h0
  | c :: h, g, h0 =>
    cases h0
    have g2 : gH (ah1.flatten.drop 1) h := gA_drop g 1
    obtain ⟨i1, i2⟩ := js_all_ok _ _ 0 h js_chk g2
    refine ⟨by rw [List.length_cons, i1]; rfl, fun o s hs => ?_⟩
    cases o with
    | zero =>
      cases hs
      show some (Sum.inr (Sum.inl (0, scr)) : xC) = some (Sum.inr (Sum.inl (0, _)))
      congr 4
      apply List.ext_getElem?
      intro j
      unfold jw_ri
      rw [List.getElem?_map]
      by_cases hj : j < scr.length
      · rw [List.getElem?_range hj, List.getElem?_eq_getElem hj]
        simp only [Option.map_some, js_0, Int.toNat_natCast, List.getElem?_eq_getElem hj, Int32.ofInt_toInt]
      · rw [List.getElem?_eq_none (by omega), List.getElem?_eq_none (by rw [List.length_range]; omega)]
        rfl
    | succ o =>
      have := i2 o s hs
      rw [Nat.zero_add] at this
      exact this

/-! THE CLAIM OUT OF ONE WALK OF THE LAW'S BODY. Your part is whole_start (and what it stands on); all else here is the same for every law, but numbers. -/
def R_law : String := "SeveralWishesLaw"
def lw_P (b : Addr) (xs : List Int32) (args : Array Value) (s : State) : Prop := args = #[.ref b] ∧ s.IntsAt b xs ∧ xs.length ≤ 6 ∧ (Jvm.Cond.and given_1 narrow_1).before args s = true
def lw_Q (_ : Array Value) (s : State) (o : Outcome) (t : State) : Prop := o = .returned (some (.int 1)) ∧ Framed s o t [] 600000 7302250
def lw_Z (below : List Frame) (a : Array Value) (s : State) : State → Prop := fun t => ∃ o, t.status = .running ∧ Ended t below o ∧ lw_Q a s o t
/-- the law's own end, with 1 on the stack, nothing written that was there before, its room as the claim has it -/
theorem lw_ret {p : Program} {l : Launch} {e : Env} {s : State} {m : MethodId} {below : List Frame} {meth : Method} {c : Code} {b : Nat} (hx : p.tables.exec = Jvm.exec) (hb : c.code = code) (hr : meth.sig.returnType = ret) (hlocks : meth.locks = false) {pc : Nat} {H : Heap} {ls : Array Slot} (hdg : decode code pc = .ok (.ireturn, 1)) : W p l e room_1 s m #[Value.ref b] below meth c H [] 600000 7302250 (lw_Z below #[Value.ref b] s) (F0 m pc ls [.int 1]) := by
  intro T hT X
  obtain ⟨fs, hret, hrun, hended, hW, hframe⟩ := X.leave (v := some (.int 1)) (hlocks := hlocks) (fun h => by rw [hr] at h; cases h)
  have hmeth' : T.vm.method? m = some meth := X.method'
  refine ⟨T.setFrames fs, ?_, .returned (some (.int 1)), hrun, hended, rfl, ⟨_, rfl⟩, hW, hframe⟩
  jvm_step X.here [X.here.top, hx, hb, hdg, hmeth', hr, ret, narrow_b1]
  (try refine ⟨rfl, ?_⟩); (try refine ⟨rfl, ?_⟩)
  first | (intro acts; rw [hret _ acts rfl rfl rfl]) | rw [hret _ _ rfl rfl rfl]
  exact Steps.refl _
/-- what holds at the law's entry: the machine, the code, the tables' words (any of lw_tbl by 'hts w (by decide +kernel)'), the script of L ints xs at the cell b, what the Statement gives of the start (any of its parts by flat_of_before) -/
def lw_At (p : Program) (s : State) (m : MethodId) (meth : Method) (c : Code) (b L : Nat) (xs : Nat → Int32) : Prop :=
  p.tables.exec = Jvm.exec ∧ c.code = code ∧ meth.sig.returnType = ret ∧ c.maxLocals = 4 ∧ s.vm.findClass R_law = some m.cls ∧ (∀ w ∈ lw_tbl, w.before #[Value.ref b] s = true) ∧ va_X b L xs s s.heap ∧ b < s.heap.size ∧ meth.locks = false ∧ (Jvm.Cond.and given_1 narrow_1).before #[Value.ref b] s = true
theorem xinst_ok : ∀ (ci : Nat) (r : vw_C), xcls[ci]? = some r → Jvm.Cond.instantiable r.1 r.2.2 ∈ xTs := by
  intro ci r h
  match ci, h with
  | 0, h => cases h; exact xin2 2 rfl rfl
  | 1, h => cases h; exact xin2 58 rfl rfl
  | 2, h => cases h; exact xin1 128 rfl rfl
  | 3, h => cases h; exact xin1 188 rfl rfl
  | 4, h => cases h; exact xin1 29 rfl rfl
  | 5, h => cases h; exact xin1 85 rfl rfl
  | 6, h => cases h; exact xin2 52 rfl rfl
  | 7, h => cases h; exact xin1 182 rfl rfl
  | 8, h => cases h; exact xin1 91 rfl rfl
  | 9, h => cases h; exact xin1 21 rfl rfl
  | 10, h => cases h; exact xin6 37 rfl rfl
  | n + 11, h => simp [xcls] at h
theorem xNsL_in : ∀ q ∈ xNsL, Jvm.Cond.methodLinkNest q.1 q.2.1 q.2.2.1 q.2.2.2 ∈ lw_tbl := List.forall_mem_cons.mpr ⟨List.mem_append_right _ (List.mem_append_right _ (List.mem_append_left _ (List.mem_of_getElem? (l := tables_1_2) (i := 8) rfl))), List.forall_mem_cons.mpr ⟨List.mem_append_right _ (List.mem_append_left _ (List.mem_of_getElem? (l := tables_1_1) (i := 134) rfl)), List.forall_mem_cons.mpr ⟨List.mem_append_right _ (List.mem_append_left _ (List.mem_of_getElem? (l := tables_1_1) (i := 92) rfl)), List.forall_mem_cons.mpr ⟨List.mem_append_right _ (List.mem_append_right _ (List.mem_append_left _ (List.mem_of_getElem? (l := tables_1_2) (i := 59) rfl))), List.forall_mem_cons.mpr ⟨List.mem_append_right _ (List.mem_append_left _ (List.mem_of_getElem? (l := tables_1_1) (i := 189) rfl)), List.forall_mem_cons.mpr ⟨List.mem_append_right _ (List.mem_append_left _ (List.mem_of_getElem? (l := tables_1_1) (i := 86) rfl)), List.forall_mem_cons.mpr ⟨List.mem_append_right _ (List.mem_append_left _ (List.mem_of_getElem? (l := tables_1_1) (i := 129) rfl)), List.forall_mem_cons.mpr ⟨List.mem_append_right _ (List.mem_append_left _ (List.mem_of_getElem? (l := tables_1_1) (i := 183) rfl)), List.forall_mem_cons.mpr ⟨List.mem_append_right _ (List.mem_append_right _ (List.mem_append_left _ (List.mem_of_getElem? (l := tables_1_2) (i := 53) rfl))), List.forall_mem_cons.mpr ⟨List.mem_append_right _ (List.mem_append_right _ (List.mem_append_left _ (List.mem_of_getElem? (l := tables_1_2) (i := 100) rfl))), fun _ h => absurd h List.not_mem_nil⟩⟩⟩⟩⟩⟩⟩⟩⟩⟩
def xtm : Nat → Term
  | 0 => .string "SeveralWishes$Law" 36
  | 1 => .string "SeveralWishes$Reade\x72" 87
  | 2 => .string "SeveralWishes$Reade\x72" 93
  | 3 => .string "SeveralWishes$Reade\x72" 95
  | 4 => .string "SeveralWishes$Reade\x72" 97
  | 5 => .string "SeveralWishes$Reade\x72" 99
  | _ => .null
def xlenS : List Nat := [7, 2, 4, 5, 4, 3]
def xbytS : List (List Int32) := [[105, 97, 98, 99, 116, 110, 101], [111, 102], [119, 105, 115, 104], [108, 101, 97, 115, 116], [107, 101, 101, 112], [98, 111, 120]]
/-- the heap at the start: the script, then the texts of the class (each an object and its row of bytes) -/
def xpre : xH := [.inl (1000, [.ref 2, .int 0]), .inr (.inl (2, [105, 97, 98, 99, 116, 110, 101])), .inl (1000, [.ref 4, .int 0]), .inr (.inl (2, [111, 102])), .inl (1000, [.ref 6, .int 0]), .inr (.inl (2, [119, 105, 115, 104])), .inl (1000, [.ref 8, .int 0]), .inr (.inl (2, [108, 101, 97, 115, 116])), .inl (1000, [.ref 10, .int 0]), .inr (.inl (2, [107, 101, 101, 112])), .inl (1000, [.ref 12, .int 0]), .inr (.inl (2, [98, 111, 120]))]
def xh0 (scr : List Int32) : xH := .inr (.inl (0, scr)) :: xpre
/-- what is owed: on every script the engine comes to 1, within the claim's room -/
def xOwed : Prop := ∀ scr : List Int32, scr.length ≤ 6 → ∃ (F : Nat) (h' : xH), xrun xft xP (xex xft xP F 100) md_law F 0 (xent 4 [.ref 0]) [] (xh0 scr) = some (some (.int 1), h') ∧ h'.length ≤ 600000 + 13 ∧ xsz h' ≤ 7302250 + xsz (xh0 scr)
theorem xtexts {b : Nat} {s : State} (hgv : (Jvm.Cond.and given_1 narrow_1).before #[Value.ref b] s = true) : ∃ adK adV : Nat → Nat, vk_S 6 xlenS xbytS adK adV (fun q => s.heap.size ≤ q) s s.heap ∧ ∀ i : Nat, i < 6 → (xtm i).eval #[Value.ref b] s none [] s = some (.ref (adK i)) := by
  have hs := flat_of_before _ hgv
  refine vk_Sof (N := 6) (tm := xtm) (len := xlenS) (byt := xbytS) (by decide) ?_ ?_ ?_ ?_ ?_ ?_ (fun a h9 => Nat.not_le.mpr h9)
  · exact fun i hi => match i, hi with
    | 0, _ => hs _ (by decide +kernel)
    | 1, _ => hs _ (by decide +kernel)
    | 2, _ => hs _ (by decide +kernel)
    | 3, _ => hs _ (by decide +kernel)
    | 4, _ => hs _ (by decide +kernel)
    | 5, _ => hs _ (by decide +kernel)
    | n + 6, h => absurd h (by omega)
  · exact fun i hi => match i, hi with
    | 0, _ => hs _ (by decide +kernel)
    | 1, _ => hs _ (by decide +kernel)
    | 2, _ => hs _ (by decide +kernel)
    | 3, _ => hs _ (by decide +kernel)
    | 4, _ => hs _ (by decide +kernel)
    | 5, _ => hs _ (by decide +kernel)
    | n + 6, h => absurd h (by omega)
  · exact fun i hi => match i, hi with
    | 0, _ => hs _ (by decide +kernel)
    | 1, _ => hs _ (by decide +kernel)
    | 2, _ => hs _ (by decide +kernel)
    | 3, _ => hs _ (by decide +kernel)
    | 4, _ => hs _ (by decide +kernel)
    | 5, _ => hs _ (by decide +kernel)
    | n + 6, h => absurd h (by omega)
  · exact fun i hi => match i, hi with
    | 0, _ => hs _ (by decide +kernel)
    | 1, _ => hs _ (by decide +kernel)
    | 2, _ => hs _ (by decide +kernel)
    | 3, _ => hs _ (by decide +kernel)
    | 4, _ => hs _ (by decide +kernel)
    | 5, _ => hs _ (by decide +kernel)
    | n + 6, h => absurd h (by omega)
  · exact fun i hi j hj => match i, hi, j, hj with
    | 0, _, 0, _ => hs _ (by decide +kernel)
    | 0, _, 1, _ => hs _ (by decide +kernel)
    | 0, _, 2, _ => hs _ (by decide +kernel)
    | 0, _, 3, _ => hs _ (by decide +kernel)
    | 0, _, 4, _ => hs _ (by decide +kernel)
    | 0, _, 5, _ => hs _ (by decide +kernel)
    | 0, _, 6, _ => hs _ (by decide +kernel)
    | 0, _, n + 7, h => absurd (show n + 7 < 7 from h) (by omega)
    | 1, _, 0, _ => hs _ (by decide +kernel)
    | 1, _, 1, _ => hs _ (by decide +kernel)
    | 1, _, n + 2, h => absurd (show n + 2 < 2 from h) (by omega)
    | 2, _, 0, _ => hs _ (by decide +kernel)
    | 2, _, 1, _ => hs _ (by decide +kernel)
    | 2, _, 2, _ => hs _ (by decide +kernel)
    | 2, _, 3, _ => hs _ (by decide +kernel)
    | 2, _, n + 4, h => absurd (show n + 4 < 4 from h) (by omega)
    | 3, _, 0, _ => hs _ (by decide +kernel)
    | 3, _, 1, _ => hs _ (by decide +kernel)
    | 3, _, 2, _ => hs _ (by decide +kernel)
    | 3, _, 3, _ => hs _ (by decide +kernel)
    | 3, _, 4, _ => hs _ (by decide +kernel)
    | 3, _, n + 5, h => absurd (show n + 5 < 5 from h) (by omega)
    | 4, _, 0, _ => hs _ (by decide +kernel)
    | 4, _, 1, _ => hs _ (by decide +kernel)
    | 4, _, 2, _ => hs _ (by decide +kernel)
    | 4, _, 3, _ => hs _ (by decide +kernel)
    | 4, _, n + 4, h => absurd (show n + 4 < 4 from h) (by omega)
    | 5, _, 0, _ => hs _ (by decide +kernel)
    | 5, _, 1, _ => hs _ (by decide +kernel)
    | 5, _, 2, _ => hs _ (by decide +kernel)
    | 5, _, n + 3, h => absurd (show n + 3 < 3 from h) (by omega)
    | n + 6, h, _, _ => absurd h (by omega)
  · exact fun i j hi hj hne => match i, hi, j, hj, hne with
    | 0, _, 0, _, h => absurd rfl h
    | 0, _, 1, _, _ => Or.inl (hs _ (by decide +kernel))
    | 0, _, 2, _, _ => Or.inl (hs _ (by decide +kernel))
    | 0, _, 3, _, _ => Or.inl (hs _ (by decide +kernel))
    | 0, _, 4, _, _ => Or.inl (hs _ (by decide +kernel))
    | 0, _, 5, _, _ => Or.inl (hs _ (by decide +kernel))
    | 0, _, n + 6, h, _ => absurd h (by omega)
    | 1, _, 0, _, _ => Or.inr (hs _ (by decide +kernel))
    | 1, _, 1, _, h => absurd rfl h
    | 1, _, 2, _, _ => Or.inl (hs _ (by decide +kernel))
    | 1, _, 3, _, _ => Or.inl (hs _ (by decide +kernel))
    | 1, _, 4, _, _ => Or.inl (hs _ (by decide +kernel))
    | 1, _, 5, _, _ => Or.inl (hs _ (by decide +kernel))
    | 1, _, n + 6, h, _ => absurd h (by omega)
    | 2, _, 0, _, _ => Or.inr (hs _ (by decide +kernel))
    | 2, _, 1, _, _ => Or.inr (hs _ (by decide +kernel))
    | 2, _, 2, _, h => absurd rfl h
    | 2, _, 3, _, _ => Or.inl (hs _ (by decide +kernel))
    | 2, _, 4, _, _ => Or.inl (hs _ (by decide +kernel))
    | 2, _, 5, _, _ => Or.inl (hs _ (by decide +kernel))
    | 2, _, n + 6, h, _ => absurd h (by omega)
    | 3, _, 0, _, _ => Or.inr (hs _ (by decide +kernel))
    | 3, _, 1, _, _ => Or.inr (hs _ (by decide +kernel))
    | 3, _, 2, _, _ => Or.inr (hs _ (by decide +kernel))
    | 3, _, 3, _, h => absurd rfl h
    | 3, _, 4, _, _ => Or.inl (hs _ (by decide +kernel))
    | 3, _, 5, _, _ => Or.inl (hs _ (by decide +kernel))
    | 3, _, n + 6, h, _ => absurd h (by omega)
    | 4, _, 0, _, _ => Or.inr (hs _ (by decide +kernel))
    | 4, _, 1, _, _ => Or.inr (hs _ (by decide +kernel))
    | 4, _, 2, _, _ => Or.inr (hs _ (by decide +kernel))
    | 4, _, 3, _, _ => Or.inr (hs _ (by decide +kernel))
    | 4, _, 4, _, h => absurd rfl h
    | 4, _, 5, _, _ => Or.inl (hs _ (by decide +kernel))
    | 4, _, n + 6, h, _ => absurd h (by omega)
    | 5, _, 0, _, _ => Or.inr (hs _ (by decide +kernel))
    | 5, _, 1, _, _ => Or.inr (hs _ (by decide +kernel))
    | 5, _, 2, _, _ => Or.inr (hs _ (by decide +kernel))
    | 5, _, 3, _, _ => Or.inr (hs _ (by decide +kernel))
    | 5, _, 4, _, _ => Or.inr (hs _ (by decide +kernel))
    | 5, _, 5, _, h => absurd rfl h
    | 5, _, n + 6, h, _ => absurd h (by omega)
    | n + 6, h, _, _, _ => absurd h (by omega)
theorem xstr_at {s : State} {z : Nat} {adK adV ad : Nat → Nat} (hz : s.heap.size = z) (hS : vk_S 6 xlenS xbytS adK adV (fun q => s.heap.size ≤ q) s s.heap) {i : Nat} (hi : i < 6) (hV : ad (2 + 2 * i) = adV i) : adK i < z ∧ adV i < z ∧ xStr s s.heap (adK i) (xsh ad (.ref (2 + 2 * i))) (xsh ad (.int 0)) ∧ xArrW s s.heap (adV i) ((xbytS.getD i []).map Value.int) := by
  obtain ⟨h1, h2, h3, h4⟩ := (vk_S.narrow (B := fun _ => False) hS (fun q h => h.elim)).1 i hi
  obtain ⟨c1, k1, -⟩ := id h1
  obtain ⟨cell, k2, k3, k4, k5, k6, k7, -⟩ := h4
  have hl : ∀ i, i < 6 → xlenS.getD i 0 = (xbytS.getD i []).length := by decide
  rw [hl i hi] at k5 k6 k7
  refine ⟨by rw [← hz]; exact (Array.getElem?_eq_some_iff.mp k1).1, by rw [← hz]; exact (Array.getElem?_eq_some_iff.mp k2).1, ⟨h1, ?_, h2⟩, cell, k2, k3, k4, by rw [List.length_map]; exact k5, by rw [List.length_map]; exact k6, fun j hj => ?_⟩
  · show va_OF "java/lang/String" "value" "[B" (.ref (ad (2 + 2 * i))) (adK i) (fun _ => False) s s.heap
    rw [hV]
    exact h3
  · rw [List.length_map] at hj
    generalize xbytS.getD i [] = B at hj k7 ⊢
    rw [k7 j hj]
    simp [hj]
set_option maxHeartbeats 4000000 in
theorem xstart (hkey : xOwed) {p : Program} {e : Env} {s : State} {m : MethodId} {below : List Frame} {meth : Method} {c : Code} (l : Launch) {b L : Nat} {xs : Nat → Int32} (hL : L ≤ 6) (C0 : lw_At p s m meth c b L xs) : W p l e room_1 s m #[Value.ref b] below meth c s.heap [] 0 0 (lw_Z below #[Value.ref b] s) (entryFrame m ([Value.ref b] : List Value).toArray 4) := by
  obtain ⟨hx, hb, hr, hml, hown, hts0, hX, hbl, hlocks, hgv⟩ := id C0
  have hts : ∀ w ∈ xTs, w.before #[Value.ref b] s = true := fun w hw => hts0 w (List.mem_filter.mp hw).1
  have hs0 := flat_of_before _ hgv
  obtain ⟨adK, adV, hS, hEv⟩ := xtexts hgv
  have hZ1 : va_Z "java/lang/String" "COMPACT_STRINGS" "Z" (.int 1) (fun q => s.heap.size ≤ q) s s.heap := va_Zof (hts0 _ (List.mem_append_right _ (List.mem_append_left _ (List.mem_of_getElem? (l := tables_1_1) (i := 145) rfl)))) (hts0 _ (List.mem_append_right _ (List.mem_append_left _ (List.mem_of_getElem? (l := tables_1_1) (i := 6) rfl)))) (va_eqt (hs0 _ (by decide +kernel))) (fun a h9 => Nat.not_le.mpr h9)
  have hZ2 : va_Zq "jdk/internal/util/Preconditions" "SIOOBE_FORMATTER" "Ljava/util/function/BiFunction;" (fun q => s.heap.size ≤ q) s s.heap := va_Zqof (hts0 _ (List.mem_append_right _ (List.mem_append_right _ (List.mem_append_right _ (List.mem_append_left _ (List.mem_of_getElem? (l := tables_1_3) (i := 122) rfl)))))) (hts0 _ (List.mem_append_right _ (List.mem_append_left _ (List.mem_of_getElem? (l := tables_1_1) (i := 17) rfl)))) (hs0 _ (by decide +kernel)) (fun a h9 => Nat.not_le.mpr h9)
  generalize hz : s.heap.size = z at hbl hZ1 hZ2
  have hh : ∀ k : Nat, ∃ (cC : ClassId) (iS : Nat → Nat), ∀ q : vw_C, xcls[k]? = some q → u_Kn s q.1 q.2.1 q.2.2 cC iS := by
    intro k
    cases hk : xcls[k]? with
    | none => exact ⟨0, fun _ => 0, fun q h => by cases h⟩
    | some r =>
      obtain ⟨cC, iS, hu⟩ := u_known (C := r.1) (T := r.2.1) (N := r.2.2) (n := r.2.2) hts (xcls_ok.2 k r hk).1 (hts _ (xinst_ok k r hk))
      exact ⟨cC, iS, fun q h => by cases h; exact hu⟩
  obtain ⟨D, hD⟩ : ∃ D : va_G, ∀ (k : Nat) (q : vw_C), xcls[k]? = some q → u_Kn s q.1 q.2.1 q.2.2 (D.1 k) (D.2 k) :=
    ⟨(fun k => Classical.choose (hh k), fun k => Classical.choose (Classical.choose_spec (hh k))), fun k q h => Classical.choose_spec (Classical.choose_spec (hh k)) q h⟩
  have hK : va_K D xcls [] s := ⟨hD, fun k q h => by simp at h⟩
  have hN : xN xNsL s := ⟨fun q hq => va_Nw.of rfl (hts0 _ (xNsL_in q hq)), arrayOver_alikeB (Vm.Alike.refl _) (hts0 _ (List.mem_append_right _ (List.mem_append_right _ (List.mem_append_left _ (List.mem_of_getElem? (l := tables_1_2) (i := 10) rfl)))))⟩
  obtain ⟨fm, hfm⟩ : ∃ fm : Nat, va_Z "jdk/internal/util/Preconditions" "SIOOBE_FORMATTER" "Ljava/util/function/BiFunction;" (match fm with
    | 0 => Value.null
    | n + 1 => Value.ref n) (fun q => z ≤ q) s s.heap := by
    rcases hZ2 with h | ⟨t, h⟩
    · exact ⟨0, h⟩
    · exact ⟨t + 1, h⟩
  obtain ⟨ad, ha0, haK, haV, haf, ha1⟩ : ∃ ad : Nat → Nat, ad 0 = b ∧ (∀ i, i < 6 → ad (1 + 2 * i) = adK i) ∧ (∀ i, i < 6 → ad (2 + 2 * i) = adV i) ∧ ad 2000000 = fm ∧ ∀ k, 13 ≤ k → k < 1048576 → ad k = z + (k - 13) := by
    refine ⟨fun k => if k = 0 then b else if k < 13 then (if k % 2 = 1 then adK ((k - 1) / 2) else adV ((k - 2) / 2)) else if k = 2000000 then fm else z + (k - 13), rfl, fun i hi => ?_, fun i hi => ?_, rfl, fun k hk hk2 => ?_⟩
    · show (if 1 + 2 * i = 0 then b else if 1 + 2 * i < 13 then (if (1 + 2 * i) % 2 = 1 then adK ((1 + 2 * i - 1) / 2) else adV ((1 + 2 * i - 2) / 2)) else if 1 + 2 * i = 2000000 then fm else z + (1 + 2 * i - 13)) = adK i
      rw [if_neg (by omega), if_pos (by omega), if_pos (by omega)]
      congr 1
      omega
    · show (if 2 + 2 * i = 0 then b else if 2 + 2 * i < 13 then (if (2 + 2 * i) % 2 = 1 then adK ((2 + 2 * i - 1) / 2) else adV ((2 + 2 * i - 2) / 2)) else if 2 + 2 * i = 2000000 then fm else z + (2 + 2 * i - 13)) = adV i
      rw [if_neg (by omega), if_pos (by omega), if_neg (by omega)]
      congr 1
      omega
    · show (if k = 0 then b else if k < 13 then (if k % 2 = 1 then adK ((k - 1) / 2) else adV ((k - 2) / 2)) else if k = 2000000 then fm else z + (k - 13)) = z + (k - 13)
      rw [if_neg (by omega), if_neg (by omega), if_neg (by omega)]
  have hRs : xK xRsL ad s := List.forall_mem_cons.mpr
    ⟨vk_R.of (hts0 _ (List.mem_append_right _ (List.mem_append_left _ (List.mem_of_getElem? (l := tables_1_1) (i := 135) rfl)))) (show (xtm 0).eval #[Value.ref b] s none [] s = some (.ref (ad 1)) by rw [show ad 1 = adK 0 from haK 0 (by decide)]; exact hEv 0 (by decide)), List.forall_mem_cons.mpr ⟨vk_R.of (hts0 _ (List.mem_append_right _ (List.mem_append_right _ (List.mem_append_right _ (List.mem_append_left _ (List.mem_of_getElem? (l := tables_1_3) (i := 193) rfl)))))) (show (xtm 1).eval #[Value.ref b] s none [] s = some (.ref (ad 3)) by rw [show ad 3 = adK 1 from haK 1 (by decide)]; exact hEv 1 (by decide)), List.forall_mem_cons.mpr ⟨vk_R.of (hts0 _ (List.mem_append_right _ (List.mem_append_right _ (List.mem_append_right _ (List.mem_append_left _ (List.mem_of_getElem? (l := tables_1_3) (i := 219) rfl)))))) (show (xtm 2).eval #[Value.ref b] s none [] s = some (.ref (ad 5)) by rw [show ad 5 = adK 2 from haK 2 (by decide)]; exact hEv 2 (by decide)), List.forall_mem_cons.mpr ⟨vk_R.of (hts0 _ (List.mem_append_right _ (List.mem_append_right _ (List.mem_append_right _ (List.mem_append_left _ (List.mem_of_getElem? (l := tables_1_3) (i := 220) rfl)))))) (show (xtm 3).eval #[Value.ref b] s none [] s = some (.ref (ad 7)) by rw [show ad 7 = adK 3 from haK 3 (by decide)]; exact hEv 3 (by decide)), List.forall_mem_cons.mpr ⟨vk_R.of (hts0 _ (List.mem_append_right _ (List.mem_append_right _ (List.mem_append_right _ (List.mem_append_left _ (List.mem_of_getElem? (l := tables_1_3) (i := 221) rfl)))))) (show (xtm 4).eval #[Value.ref b] s none [] s = some (.ref (ad 9)) by rw [show ad 9 = adK 4 from haK 4 (by decide)]; exact hEv 4 (by decide)), List.forall_mem_cons.mpr ⟨vk_R.of (hts0 _ (List.mem_append_right _ (List.mem_append_right _ (List.mem_append_right _ (List.mem_append_left _ (List.mem_of_getElem? (l := tables_1_3) (i := 222) rfl)))))) (show (xtm 5).eval #[Value.ref b] s none [] s = some (.ref (ad 11)) by rw [show ad 11 = adK 5 from haK 5 (by decide)]; exact hEv 5 (by decide)), fun _ h => absurd h List.not_mem_nil⟩⟩⟩⟩⟩⟩
  obtain ⟨F, h', hrun, hc, hs⟩ := hkey ((List.range L).map xs) (by simpa using hL)
  have hst : ∀ i, i < 6 → adK i < z ∧ adV i < z ∧ xStr s s.heap (adK i) (xsh ad (.ref (2 + 2 * i))) (xsh ad (.int 0)) ∧ xArrW s s.heap (adV i) ((xbytS.getD i []).map Value.int) := fun i hi => xstr_at hz hS hi (haV i hi)
  have hw : xW D xcls ad z s (xh0 ((List.range L).map xs)) s.heap := by
    refine ⟨fun k hk => ?_, ha1, by simp [xh0, xpre], ⟨by simp [xh0, xpre], hZ1, ?_⟩, by simp [hz, xh0, xpre], fun k cc hk => ?_⟩
    · match k, hk with
      | 0, _ => rw [ha0]; exact hbl
      | 1, _ => rw [show ad 1 = adK 0 from haK 0 (by decide)]; exact (hst 0 (by decide)).1
      | 2, _ => rw [show ad 2 = adV 0 from haV 0 (by decide)]; exact (hst 0 (by decide)).2.1
      | 3, _ => rw [show ad 3 = adK 1 from haK 1 (by decide)]; exact (hst 1 (by decide)).1
      | 4, _ => rw [show ad 4 = adV 1 from haV 1 (by decide)]; exact (hst 1 (by decide)).2.1
      | 5, _ => rw [show ad 5 = adK 2 from haK 2 (by decide)]; exact (hst 2 (by decide)).1
      | 6, _ => rw [show ad 6 = adV 2 from haV 2 (by decide)]; exact (hst 2 (by decide)).2.1
      | 7, _ => rw [show ad 7 = adK 3 from haK 3 (by decide)]; exact (hst 3 (by decide)).1
      | 8, _ => rw [show ad 8 = adV 3 from haV 3 (by decide)]; exact (hst 3 (by decide)).2.1
      | 9, _ => rw [show ad 9 = adK 4 from haK 4 (by decide)]; exact (hst 4 (by decide)).1
      | 10, _ => rw [show ad 10 = adV 4 from haV 4 (by decide)]; exact (hst 4 (by decide)).2.1
      | 11, _ => rw [show ad 11 = adK 5 from haK 5 (by decide)]; exact (hst 5 (by decide)).1
      | 12, _ => rw [show ad 12 = adV 5 from haV 5 (by decide)]; exact (hst 5 (by decide)).2.1
      | n + 13, h => exact absurd h (by omega)
    · show va_Z "jdk/internal/util/Preconditions" "SIOOBE_FORMATTER" "Ljava/util/function/BiFunction;" (match ad 2000000 with
        | 0 => Value.null
        | n + 1 => Value.ref n) (fun q => z ≤ q) s s.heap
      rw [haf]
      exact hfm
    · match k, hk with
      | 0, hk =>
        cases hk
        rw [ha0]
        obtain ⟨scr, q1, q2, q3, q4, q5⟩ := hX
        refine ⟨scr, q1, q2, q3, ?_⟩
        apply Array.ext_getElem?
        intro j
        by_cases hj : j < L
        · rw [q5 j hj]
          simp [hj]
        · rw [Array.getElem?_eq_none (by omega)]
          simp [hj]
      | 1, hk =>
        cases hk
        rw [show ad 1 = adK 0 from haK 0 (by decide)]
        exact Or.inr ⟨rfl, _, _, rfl, (hst 0 (by decide)).2.2.1⟩
      | 2, hk =>
        cases hk
        rw [show ad 2 = adV 0 from haV 0 (by decide)]
        exact (hst 0 (by decide)).2.2.2
      | 3, hk =>
        cases hk
        rw [show ad 3 = adK 1 from haK 1 (by decide)]
        exact Or.inr ⟨rfl, _, _, rfl, (hst 1 (by decide)).2.2.1⟩
      | 4, hk =>
        cases hk
        rw [show ad 4 = adV 1 from haV 1 (by decide)]
        exact (hst 1 (by decide)).2.2.2
      | 5, hk =>
        cases hk
        rw [show ad 5 = adK 2 from haK 2 (by decide)]
        exact Or.inr ⟨rfl, _, _, rfl, (hst 2 (by decide)).2.2.1⟩
      | 6, hk =>
        cases hk
        rw [show ad 6 = adV 2 from haV 2 (by decide)]
        exact (hst 2 (by decide)).2.2.2
      | 7, hk =>
        cases hk
        rw [show ad 7 = adK 3 from haK 3 (by decide)]
        exact Or.inr ⟨rfl, _, _, rfl, (hst 3 (by decide)).2.2.1⟩
      | 8, hk =>
        cases hk
        rw [show ad 8 = adV 3 from haV 3 (by decide)]
        exact (hst 3 (by decide)).2.2.2
      | 9, hk =>
        cases hk
        rw [show ad 9 = adK 4 from haK 4 (by decide)]
        exact Or.inr ⟨rfl, _, _, rfl, (hst 4 (by decide)).2.2.1⟩
      | 10, hk =>
        cases hk
        rw [show ad 10 = adV 4 from haV 4 (by decide)]
        exact (hst 4 (by decide)).2.2.2
      | 11, hk =>
        cases hk
        rw [show ad 11 = adK 5 from haK 5 (by decide)]
        exact Or.inr ⟨rfl, _, _, rfl, (hst 5 (by decide)).2.2.1⟩
      | 12, hk =>
        cases hk
        rw [show ad 12 = adV 5 from haV 5 (by decide)]
        exact (hst 5 (by decide)).2.2.2
      | n + 13, hk => simp [xh0, xpre] at hk
  obtain ⟨Ls, eL, hl⟩ := xent_LH ad [.ref 0] (n := 4) (by decide) m
  have ev : ([Value.ref 0].map (xsh ad)) = [Value.ref b] := by show [Value.ref (ad 0)] = _; rw [ha0]
  rw [ev] at eL
  rw [eL]
  have hcd := xcd_ok md_law_ok
  have key := xrun_sound (p := p) (l := l) (e := e) (R := room_1) (s := s) (m := m) (args := #[Value.ref b]) (below := below) (meth := meth) (c := c) (Q := lw_Z below #[Value.ref b] s) (D := D) (ad := ad) (z := z) (d := 100) (nL := 4) (H0 := s.heap)
    hx hb hml xTs_good hts hown hK hN hRs xcls_ok (fun h => by cases h) (fun k M hM => (xP_ok k M hM).1) hcd ⟨by decide, by decide⟩ (fun k M as h r h' hM hr => xex_sound xTs_good xcls_ok xP_ok 100 k M as h r h' hM hr) F 0 _ _ _ _ _ hrun
  have e0 : (xh0 ((List.range L).map xs)).length = 13 := rfl
  generalize xh0 ((List.range L).map xs) = h0 at *
  have e1 : h'.length - h0.length ≤ 600000 := by omega
  have e2 : xsz h' - xsz h0 ≤ 7302250 := by omega
  refine key.2.2 0 Ls s.heap [] 0 0 hcd.1 hl hw va_S.rf (by rw [Nat.zero_add]; exact e1) (by rw [Nat.zero_add]; exact e2) (fun pc' L' H' locs' st' ins' hdec hxe hw' hS' => ?_)
  rw [Nat.zero_add, Nat.zero_add]
  refine va_forget (fun q hq => by rw [hz]; exact hS'.2.2 q hq) ?_
  refine W.widen e1 e2 ?_
  unfold xend at hxe
  split at hxe
  · split at hxe <;> cases hxe
    exact lw_ret hx hb hr hlocks hdec
  · split at hxe <;> cases hxe
  · split at hxe <;> cases hxe
  · cases hxe

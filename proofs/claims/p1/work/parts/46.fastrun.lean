/-! ===== the quick one's calls and runs ===== -/
noncomputable def bhs (a : Nat) (ft : List (List FieldType)) (tg : List Nat) (st : List aV) (h : bH) : Instr → bQ
  | .getfield _ => bgf a (tg.headD 0) st h
  | .putfield _ => bpf (((ft.getD (tg.headD 0) []).getD a .int)) a (tg.headD 0) st h
  | .iaload => bia 0 st h
  | .baload => bia 1 st h
  | .laload => bla st h
  | .aaload => baa st h
  | .iastore => bis 0 (fun x => x) st h
  | .bastore => bis 1 (fun x => x.toInt8.toInt32) st h
  | .lastore => bls st h
  | .arraylength => bal st h
  | .ldc _ => (match tg with
    | [] => some (.inl (.int (Int32.ofNat a)) :: st, h)
    | _ => some (.inl (.ref a) :: st, h))
  | .ldc_w _ => (match tg with
    | [] => some (.inl (.int (Int32.ofNat a)) :: st, h)
    | _ => none)
  | .getstatic _ => (match a with
    | 0 => some (.inl (.int 1) :: st, h)
    | _ => some (.inl (.retAddr 0) :: st, h))
  | .ldc2_w _ => some (.inl (.long (Int64.ofNat a)) :: st, h)
  | _ => none
theorem bhs_ok {a : Nat} {ft : List (List FieldType)} {tg : List Nat} {st st' : List aV} {h h' : bH} {ins : Instr} (hk : bok h = true) (hr : bhs a ft tg st h ins = some (st', h')) : ahs ft a tg st h.flatten ins = some (st', h'.flatten) ∧ bok h' = true := by
  cases ins <;> try cases hr
  case getfield ix => exact bgf_ok hk hr
  case putfield ix => exact bpf_ok hk hr
  case iaload => exact bia_ok hk hr
  case baload => exact bia_ok hk hr
  case laload => exact bla_ok hk hr
  case aaload => exact baa_ok hk hr
  case iastore => exact bis_ok hk hr
  case bastore => exact bis_ok hk hr
  case lastore => exact bls_ok hk hr
  case arraylength => exact bal_ok hk hr
  case ldc ix =>
    cases tg <;> cases hr <;> exact ⟨rfl, hk⟩
  case ldc_w ix =>
    cases tg <;> cases hr
    exact ⟨rfl, hk⟩
  case getstatic ix =>
    cases a <;> cases hr <;> exact ⟨rfl, hk⟩
  case ldc2_w ix => exact ⟨rfl, hk⟩
noncomputable def brc (ci : Nat) (as : List aV) (h : bH) : Bool := match as with
  | .inl (.ref o) :: _ => (match bget h o with
    | some (.inl (c, _)) => c == ci && decide (c ≠ 2000)
    | _ => false)
  | _ => false
theorem brc_eq {ci : Nat} {as : List aV} {h : bH} (hk : bok h = true) : brc ci as h = arc ci as h.flatten := by
  unfold brc arc
  simp only [bget_eq hk]
  rfl
noncomputable def bca (P : List (List xM)) (a : Nat) (st : List aV) (h : bH) : Option (List aV × List aV) := match bget P a with
  | none => none
  | some M => if (if M.kind = 0 then M.np else M.np + 1) ≤ st.length ∧ acw (st.drop (if M.kind = 0 then M.np else M.np + 1)) ≤ 8 ∧ (M.kind = 0 ∨ brc M.ci (st.take (if M.kind = 0 then M.np else M.np + 1)).reverse h = true) then some ((st.take (if M.kind = 0 then M.np else M.np + 1)).reverse, st.drop (if M.kind = 0 then M.np else M.np + 1)) else none
theorem bca_eq {P : List (List xM)} {a : Nat} {st : List aV} {h : bH} (hP : bok P = true) (hk : bok h = true) : bca P a st h = aca P.flatten a st h.flatten := by
  unfold bca aca
  simp only [bget_eq hP, brc_eq hk]
  rfl
noncomputable def bbt (a : Nat) (st : List aV) (h : bH) : bQ := match a with
  | 1 => (match st with
    | .inl (.int n) :: .inl (.int dp) :: .inl (.ref d) :: .inl (.int sp) :: .inl (.ref o) :: r => (match bget h o, bget h d with
      | some (.inr (.inl (0, xs))), some (.inr (.inl (0, ys))) => if acw r ≤ 8 ∧ 13 ≤ d ∧ ¬ sp < 0 ∧ ¬ dp < 0 ∧ ¬ n < 0 ∧ sp.toNatClampNeg + n.toNatClampNeg ≤ xs.length ∧ dp.toNatClampNeg + n.toNatClampNeg ≤ ys.length then some (r, bset h d (.inr (.inl (0, acp xs ys sp.toNatClampNeg dp.toNatClampNeg n.toNatClampNeg)))) else none
      | _, _ => none)
    | _ => none)
  | _ => (match abt a st [] with
    | some n => some (n.1, h)
    | none => none)
theorem abt_other {a : Nat} (ha : a ≠ 1) {st st' : List aV} {h1 h1' : aH} (hr : abt a st h1 = some (st', h1')) (h2 : aH) : abt a st h2 = some (st', h2) := by
  unfold abt at hr ⊢
  split at hr
  · split at hr <;> try cases hr
    split at hr <;> cases hr
    rename_i g
    first
    | rw [if_pos g]
    | (simp only; rw [if_pos g])
  · exact absurd rfl ha
  · split at hr <;> try cases hr
    split at hr <;> cases hr
    rename_i g
    first
    | rw [if_pos g]
    | (simp only; rw [if_pos g])
  · split at hr <;> try cases hr
    split at hr <;> cases hr
    rename_i g
    first
    | rw [if_pos g]
    | (simp only; rw [if_pos g])
  · split at hr <;> try cases hr
    split at hr <;> cases hr
    rename_i g
    first
    | rw [if_pos g]
    | (simp only; rw [if_pos g])
  · split at hr <;> try cases hr
    split at hr <;> cases hr
    rename_i g
    first
    | rw [if_pos g]
    | (simp only; rw [if_pos g])
  · cases hr
theorem bbt_ok {a : Nat} {st st' : List aV} {h h' : bH} (hk : bok h = true) (hr : bbt a st h = some (st', h')) : abt a st h.flatten = some (st', h'.flatten) ∧ bok h' = true := by
  by_cases ha : a = 1
  · subst ha
    unfold bbt at hr
    simp only [bget_eq hk] at hr
    split at hr <;> try cases hr
    split at hr <;> try cases hr
    rename_i xs ys ho hd
    split at hr <;> cases hr
    rename_i hc
    refine ⟨?_, (bset_eq hk _ _).2.1⟩
    simp only [abt]
    rw [ho, hd]
    simp only
    rw [if_pos hc, (bset_eq hk _ _).1]
  · have hr : (match abt a st [] with
      | some n => some (n.1, h)
      | none => none) = some (st', h') := by
      unfold bbt at hr
      split at hr
      · exact absurd rfl ha
      · exact hr
    split at hr <;> cases hr
    rename_i n hn
    obtain ⟨s1, h1⟩ := n
    exact ⟨abt_other ha hn _, hk⟩
def bend (st : List aV) (h : bH) : Instr → bR
  | .ireturn => (match st with
    | [.inl (.int v)] => some (some (.inl (.int v)), h)
    | [.inr p] => some (some (.inr p), h)
    | _ => none)
  | .lreturn => (match st with
    | [.inl (.long v)] => some (some (.inl (.long v)), h)
    | _ => none)
  | .return_ => (match st with
    | [] => some (none, h)
    | _ => none)
  | _ => none
theorem bend_ok {st : List aV} {h h' : bH} {ins : Instr} {r : Option aV} (hr : bend st h ins = some (r, h')) : aend st h.flatten ins = some (r, h'.flatten) ∧ h' = h := by
  unfold bend at hr
  split at hr
  · split at hr <;> cases hr <;> exact ⟨rfl, rfl⟩
  · split at hr <;> cases hr
    exact ⟨rfl, rfl⟩
  · split at hr <;> cases hr
    exact ⟨rfl, rfl⟩
  · cases hr
noncomputable def brun (ft : List (List FieldType)) (P : List (List xM)) (call : Nat → List aV → bH → bR) (cd : List xI) : Nat → Nat → List xI → aL → List aV → bH → bR
  | 0, _, _, _, _, _ => none
  | f + 1, i, sx, ls, st, h => match sx with
    | [] => none
    | q :: sy => match bps i q.2.2.2.1 q.2.2.2.2 ls st q.2.1 with
      | some n => brun ft P call cd f n.1 (if n.1 = i + 1 then sy else ldrop cd n.1) n.2.1 n.2.2 h
      | none => match bhs q.2.2.2.1 ft q.2.2.2.2 st h q.2.1 with
        | some n => brun ft P call cd f (i + 1) sy ls n.1 n.2
        | none => match xisc q.2.1 with
          | false => bend st h q.2.1
          | true => match q.2.2.2.2 with
            | [] => (match bca P q.2.2.2.1 st h with
              | none => none
              | some c => match call q.2.2.2.1 c.1 h with
                | none => none
                | some r => brun ft P call cd f (i + 1) sy ls (r.1.toList ++ c.2) r.2)
            | _ => (match bbt q.2.2.2.1 st h with
              | none => none
              | some n => brun ft P call cd f (i + 1) sy ls n.1 n.2)
noncomputable def bex (ft : List (List FieldType)) (P : List (List xM)) (F : Nat) : Nat → Nat → List aV → bH → bR
  | 0, _, _, _ => none
  | d + 1, k, as, h => match bget P k with
    | none => none
    | some M => if (aes as).length ≤ M.maxL then match brun ft P (bex ft P F d) M.cd F 0 M.cd (aent M.maxL as) [] h with
      | none => none
      | some r => if arok M.ret r.1 then some r else none else none
theorem bend_hs {ft : List (List FieldType)} {a : Nat} {tg : List Nat} {st st2 : List aV} {h : bH} {h2 : aH} {ins : Instr} {r : Option aV × bH} (hr : bend st h ins = some r) : ahs ft a tg st2 h2 ins = none := by
  cases ins <;> first | rfl | cases hr
theorem aisc_hs {ins : Instr} (h : xisc ins = true) (ft : List (List FieldType)) (a : Nat) (tg : List Nat) (st : List aV) (h2 : aH) : ahs ft a tg st h2 ins = none := by
  cases ins <;> first | rfl | cases h
theorem bsuf {cd : List xI} {i : Nat} {q : xI} {sy : List xI} (h : cd.drop i = q :: sy) : cd[i]? = some q ∧ cd.drop (i + 1) = sy := by
  constructor
  · rw [← Nat.add_zero i, ← List.getElem?_drop, h]
    rfl
  · rw [← List.tail_drop, h]
    rfl
theorem brun_ok {ft : List (List FieldType)} {P : List (List xM)} (hP : bok P = true) {bcall : Nat → List aV → bH → bR} {acall : Nat → List aV → aH → aR} {cd : List xI}
    (hcall : ∀ (k : Nat) (as : List aV) (h : bH) (r : Option aV) (h' : bH), bcall k as h = some (r, h') → bok h = true → acall k as h.flatten = some (r, h'.flatten) ∧ bok h' = true) :
    ∀ (f i : Nat) (sx : List xI) (ls : aL) (st : List aV) (h : bH) (r : Option aV) (h' : bH), sx = cd.drop i → brun ft P bcall cd f i sx ls st h = some (r, h') → bok h = true → arun ft P.flatten acall cd f i ls st h.flatten = some (r, h'.flatten) ∧ bok h' = true := by
  intro f
  induction f with
  | zero => intro i sx ls st h r h' hsx hr hk; cases hr
  | succ f ih =>
    intro i sx ls st h r h' hsx hr hk
    unfold brun at hr
    unfold arun
    split at hr
    · cases hr
    · rename_i q sy
      obtain ⟨hq, hsy⟩ := bsuf hsx.symm
      rw [hq]
      simp only
      rw [bps_eq] at hr
      split at hr
      · rename_i n hn
        rw [hn]
        simp only
        refine ih _ _ _ _ _ _ _ ?_ hr hk
        split
        · rename_i e
          rw [e]
          exact hsy.symm
        · exact ldrop_eq _ _
      · rename_i hn
        rw [hn]
        simp only
        split at hr
        · rename_i n hn2
          obtain ⟨st2, h2⟩ := n
          obtain ⟨g1, g2⟩ := bhs_ok (ft := ft) hk hn2
          rw [g1]
          exact ih _ _ _ _ _ _ _ hsy.symm hr g2
        · split at hr
          · rename_i hisc
            rw [bend_hs hr, hisc]
            obtain ⟨g1, g2⟩ := bend_ok hr
            exact ⟨g1, by rw [g2]; exact hk⟩
          · rename_i hisc
            rw [aisc_hs hisc, hisc]
            simp only
            split at hr
            · rename_i htg
              rw [htg]
              simp only
              split at hr
              · cases hr
              · rename_i c hc
                rw [bca_eq hP hk] at hc
                rw [hc]
                simp only
                split at hr
                · cases hr
                · rename_i r0 hr0
                  obtain ⟨r1, h1⟩ := r0
                  obtain ⟨g1, g2⟩ := hcall _ _ _ _ _ hr0 hk
                  rw [g1]
                  exact ih _ _ _ _ _ _ _ hsy.symm hr g2
            · rename_i htg
              split at hr
              · cases hr
              · rename_i n hn3
                obtain ⟨st2, h2⟩ := n
                obtain ⟨g1, g2⟩ := bbt_ok hk hn3
                split
                · rename_i e
                  exact absurd e htg
                · rw [g1]
                  exact ih _ _ _ _ _ _ _ hsy.symm hr g2
theorem bex_ok {ft : List (List FieldType)} {P : List (List xM)} (hP : bok P = true) {F : Nat} : ∀ (d k : Nat) (as : List aV) (h : bH) (r : Option aV) (h' : bH), bex ft P F d k as h = some (r, h') → bok h = true → aex ft P.flatten F d k as h.flatten = some (r, h'.flatten) ∧ bok h' = true
  | 0, k, as, h, r, h', hr, hk => by cases hr
  | d + 1, k, as, h, r, h', hr, hk => by
    unfold bex at hr
    unfold aex
    rw [bget_eq hP] at hr
    split at hr
    · cases hr
    · rename_i M hM
      rw [hM]
      simp only
      split at hr
      · rename_i hl
        rw [if_pos hl]
        split at hr
        · cases hr
        · rename_i r0 hr0
          split at hr
          · rename_i hok
            cases hr
            obtain ⟨g1, g2⟩ := brun_ok hP (fun k as h r h' q1 q2 => bex_ok hP d k as h r h' q1 q2) _ _ _ _ _ _ _ _ rfl hr0 hk
            rw [g1]
            simp only
            rw [if_pos hok]
            exact ⟨rfl, g2⟩
          · cases hr
      · cases hr

/-! ===== what is owed of p1 ===== -/
theorem tr_at {call : Nat → List aV → bH → bR} (hcall : ∀ k as h r, call k as h = some r → bex xft xPb 200000 100 k as h = some r) {y : Int32} {t : List (Option (Nat × Int32))} (h : atr (bans call 199979 21 [.inl (.int y)]) 1000 t (List.replicate 6 aTop) = some []) {scr : List Int32} (hl : scr.length = 6) {h1 : xH} (hh : gH ah1.flatten h1) (h0 : h1[0]? = some (.inr (.inl (0, scr)))) : ∃ h', xrun xft xP (xex xft xP 200000 100) md_law 199979 21 [some (.ref 0), some (.ref 13), some (.ref 103), some (.int 0)] [.int y] h1 = some (some (.int 1), h') ∧ h'.length ≤ 1000 ∧ xsz h' ≤ 100000 := by
  have hb : gB (List.replicate 6 aTop) scr := by
    match scr, hl with
    | [a, b, c, d, e, f], _ => exact ⟨aTop_gI a, aTop_gI b, aTop_gI c, aTop_gI d, aTop_gI e, aTop_gI f, trivial⟩
  obtain ⟨b', hc, hb'⟩ := atr_ok _ _ _ _ h scr hb
  exact bans_ok hcall hc (st := [.int y]) ⟨rfl, trivial⟩ hb' hh h0
theorem tr_all {y : Int32} (h0 : 0 ≤ y) (h63 : y ≤ 63) {scr : List Int32} (hl : scr.length = 6) {h1 : xH} (hh : gH ah1.flatten h1) (hs : h1[0]? = some (.inr (.inl (0, scr)))) : ∃ h', xrun xft xP (xex xft xP 200000 100) md_law 199979 21 [some (.ref 0), some (.ref 13), some (.ref 103), some (.int 0)] [.int y] h1 = some (some (.int 1), h') ∧ h'.length ≤ 1000 ∧ xsz h' ≤ 100000 := by
  rw [Int32.le_iff_toInt_le] at h0 h63
  have e0 : (0 : Int32).toInt = 0 := rfl
  have e63 : (63 : Int32).toInt = 63 := rfl
  have hy : y = Int32.ofInt y.toInt := (Int32.ofInt_toInt y).symm
  generalize hn : y.toInt = n at *
  obtain ⟨k, rfl⟩ := Int.eq_ofNat_of_zero_le (show 0 ≤ n by omega)
  have hk : k ≤ 63 := by omega
  subst hy
  match k, hk with
  | 0, _ => exact tr_at (fun k as h r q => cex_ok 100 k as h r q) tr_0 hl hh hs
  | 1, _ => exact tr_at (fun k as h r q => cex_ok 100 k as h r q) tr_1 hl hh hs
  | 2, _ => exact tr_at (fun k as h r q => cex_ok 100 k as h r q) tr_2 hl hh hs
  | 3, _ => exact tr_at (fun k as h r q => cex_ok 100 k as h r q) tr_3 hl hh hs
  | 4, _ => exact tr_at (fun k as h r q => cex_ok 100 k as h r q) tr_4 hl hh hs
  | 5, _ => exact tr_at (fun k as h r q => cex_ok 100 k as h r q) tr_5 hl hh hs
  | 6, _ => exact tr_at (fun k as h r q => cex_ok 100 k as h r q) tr_6 hl hh hs
  | 7, _ => exact tr_at (fun k as h r q => cex_ok 100 k as h r q) tr_7 hl hh hs
  | 8, _ => exact tr_at (fun k as h r q => cex_ok 100 k as h r q) tr_8 hl hh hs
  | 9, _ => exact tr_at (fun k as h r q => cex_ok 100 k as h r q) tr_9 hl hh hs
  | 10, _ => exact tr_at (fun k as h r q => cex_ok 100 k as h r q) tr_10 hl hh hs
  | 11, _ => exact tr_at (fun k as h r q => cex_ok 100 k as h r q) tr_11 hl hh hs
  | 12, _ => exact tr_at (fun k as h r q => cex_ok 100 k as h r q) tr_12 hl hh hs
  | 13, _ => exact tr_at (fun k as h r q => cex_ok 100 k as h r q) tr_13 hl hh hs
  | 14, _ => exact tr_at (fun k as h r q => cex_ok 100 k as h r q) tr_14 hl hh hs
  | 15, _ => exact tr_at (fun k as h r q => cex_ok 100 k as h r q) tr_15 hl hh hs
  | 16, _ => exact tr_at (fun k as h r q => cex_ok 100 k as h r q) tr_16 hl hh hs
  | 17, _ => exact tr_at (fun k as h r q => cex_ok 100 k as h r q) tr_17 hl hh hs
  | 18, _ => exact tr_at (fun k as h r q => cex_ok 100 k as h r q) tr_18 hl hh hs
  | 19, _ => exact tr_at (fun k as h r q => cex_ok 100 k as h r q) tr_19 hl hh hs
  | 20, _ => exact tr_at (fun k as h r q => cex_ok 100 k as h r q) tr_20 hl hh hs
  | 21, _ => exact tr_at (fun k as h r q => cex_ok 100 k as h r q) tr_21 hl hh hs
  | 22, _ => exact tr_at cm_22_ok tr_22 hl hh hs
  | 23, _ => exact tr_at (fun k as h r q => cex_ok 100 k as h r q) tr_23 hl hh hs
  | 24, _ => exact tr_at (fun k as h r q => cex_ok 100 k as h r q) tr_24 hl hh hs
  | 25, _ => exact tr_at (fun k as h r q => cex_ok 100 k as h r q) tr_25 hl hh hs
  | 26, _ => exact tr_at (fun k as h r q => cex_ok 100 k as h r q) tr_26 hl hh hs
  | 27, _ => exact tr_at (fun k as h r q => cex_ok 100 k as h r q) tr_27 hl hh hs
  | 28, _ => exact tr_at (fun k as h r q => cex_ok 100 k as h r q) tr_28 hl hh hs
  | 29, _ => exact tr_at (fun k as h r q => cex_ok 100 k as h r q) tr_29 hl hh hs
  | 30, _ => exact tr_at (fun k as h r q => cex_ok 100 k as h r q) tr_30 hl hh hs
  | 31, _ => exact tr_at (fun k as h r q => cex_ok 100 k as h r q) tr_31 hl hh hs
  | 32, _ => exact tr_at (fun k as h r q => cex_ok 100 k as h r q) tr_32 hl hh hs
  | 33, _ => exact tr_at (fun k as h r q => cex_ok 100 k as h r q) tr_33 hl hh hs
  | 34, _ => exact tr_at (fun k as h r q => cex_ok 100 k as h r q) tr_34 hl hh hs
  | 35, _ => exact tr_at (fun k as h r q => cex_ok 100 k as h r q) tr_35 hl hh hs
  | 36, _ => exact tr_at (fun k as h r q => cex_ok 100 k as h r q) tr_36 hl hh hs
  | 37, _ => exact tr_at (fun k as h r q => cex_ok 100 k as h r q) tr_37 hl hh hs
  | 38, _ => exact tr_at (fun k as h r q => cex_ok 100 k as h r q) tr_38 hl hh hs
  | 39, _ => exact tr_at (fun k as h r q => cex_ok 100 k as h r q) tr_39 hl hh hs
  | 40, _ => exact tr_at (fun k as h r q => cex_ok 100 k as h r q) tr_40 hl hh hs
  | 41, _ => exact tr_at (fun k as h r q => cex_ok 100 k as h r q) tr_41 hl hh hs
  | 42, _ => exact tr_at (fun k as h r q => cex_ok 100 k as h r q) tr_42 hl hh hs
  | 43, _ => exact tr_at (fun k as h r q => cex_ok 100 k as h r q) tr_43 hl hh hs
  | 44, _ => exact tr_at (fun k as h r q => cex_ok 100 k as h r q) tr_44 hl hh hs
  | 45, _ => exact tr_at (fun k as h r q => cex_ok 100 k as h r q) tr_45 hl hh hs
  | 46, _ => exact tr_at (fun k as h r q => cex_ok 100 k as h r q) tr_46 hl hh hs
  | 47, _ => exact tr_at (fun k as h r q => cex_ok 100 k as h r q) tr_47 hl hh hs
  | 48, _ => exact tr_at (fun k as h r q => cex_ok 100 k as h r q) tr_48 hl hh hs
  | 49, _ => exact tr_at (fun k as h r q => cex_ok 100 k as h r q) tr_49 hl hh hs
  | 50, _ => exact tr_at (fun k as h r q => cex_ok 100 k as h r q) tr_50 hl hh hs
  | 51, _ => exact tr_at (fun k as h r q => cex_ok 100 k as h r q) tr_51 hl hh hs
  | 52, _ => exact tr_at (fun k as h r q => cex_ok 100 k as h r q) tr_52 hl hh hs
  | 53, _ => exact tr_at (fun k as h r q => cex_ok 100 k as h r q) tr_53 hl hh hs
  | 54, _ => exact tr_at (fun k as h r q => cex_ok 100 k as h r q) tr_54 hl hh hs
  | 55, _ => exact tr_at (fun k as h r q => cex_ok 100 k as h r q) tr_55 hl hh hs
  | 56, _ => exact tr_at (fun k as h r q => cex_ok 100 k as h r q) tr_56 hl hh hs
  | 57, _ => exact tr_at (fun k as h r q => cex_ok 100 k as h r q) tr_57 hl hh hs
  | 58, _ => exact tr_at (fun k as h r q => cex_ok 100 k as h r q) tr_58 hl hh hs
  | 59, _ => exact tr_at (fun k as h r q => cex_ok 100 k as h r q) tr_59 hl hh hs
  | 60, _ => exact tr_at (fun k as h r q => cex_ok 100 k as h r q) tr_60 hl hh hs
  | 61, _ => exact tr_at (fun k as h r q => cex_ok 100 k as h r q) tr_61 hl hh hs
  | 62, _ => exact tr_at (fun k as h r q => cex_ok 100 k as h r q) tr_62 hl hh hs
  | 63, _ => exact tr_at (fun k as h r q => cex_ok 100 k as h r q) tr_63 hl hh hs
  | k + 64, h => exact absurd h (by omega)
set_option maxRecDepth 100000 in
theorem sw_run : eqS (apre xft xP (aex xft xP 200000 100) md_law 11 10 als1 [] (bset ah1 0 (.inr (.inl (0, List.replicate 6 (.inr aTop))))).flatten) 21 als1 [.inr (0, 63)] (bset ah1 0 (.inr (.inl (0, List.replicate 6 (.inr aTop))))).flatten = true := by decide +kernel
set_option maxRecDepth 100000 in
theorem sh_0 : bans (cex xft xPb 200000 100) 199990 10 [] (List.replicate 0 aTop) = true := by decide +kernel
set_option maxRecDepth 100000 in
theorem sh_1 : bans (cex xft xPb 200000 100) 199990 10 [] (List.replicate 1 aTop) = true := by decide +kernel
set_option maxRecDepth 100000 in
theorem sh_2 : bans (cex xft xPb 200000 100) 199990 10 [] (List.replicate 2 aTop) = true := by decide +kernel
set_option maxRecDepth 100000 in
theorem sh_3 : bans (cex xft xPb 200000 100) 199990 10 [] (List.replicate 3 aTop) = true := by decide +kernel
set_option maxRecDepth 100000 in
theorem sh_4 : bans (cex xft xPb 200000 100) 199990 10 [] (List.replicate 4 aTop) = true := by decide +kernel
set_option maxRecDepth 100000 in
theorem sh_5 : bans (cex xft xPb 200000 100) 199990 10 [] (List.replicate 5 aTop) = true := by decide +kernel
theorem row_top : ∀ scr : List Int32, gA gN (List.replicate scr.length (.inr aTop)) scr
  | [] => trivial
  | a :: r => ⟨aTop_gI a, row_top r⟩
theorem box_top : ∀ scr : List Int32, gB (List.replicate scr.length aTop) scr
  | [] => trivial
  | a :: r => ⟨aTop_gI a, box_top r⟩
theorem xowed6 (scr : List Int32) (hs : scr.length ≤ 6) : ∃ (F : Nat) (h' : xH), xrun xft xP (xex xft xP F 100) md_law F 0 (xent 4 [.ref 0]) [] (xh0 scr) = some (some (.int 1), h') ∧ h'.length ≤ 1000 ∧ xsz h' ≤ 100000 := by
  obtain ⟨h1, g1, g2, g3⟩ := con_ok scr
  by_cases h6 : scr.length = 6
  · have row : gA gN (List.replicate 6 (.inr aTop)) scr := by
      have := row_top scr
      rwa [h6] at this
    obtain ⟨ls', st', h2, k1, k2, k3, k5, k4⟩ := apre_ok (call := xex xft xP 200000 100) (fun k vs h r h' q1 q2 => xex_low 100 k vs h r h' q1 q2) (fun k as ah ar ah' vs h q1 q2 q3 => aex_ok 100 k as ah ar ah' vs h q1 q2 q3) _ _ _ _ _ _ _ _ _ (eqS_ok sw_run) [some (.ref 0), some (.ref 13), some (.ref 103), some (.int 0)] [] h1 ⟨rfl, rfl, rfl, rfl, trivial⟩ trivial (con_row g1 g2 row)
    have e1 : ls' = [some (.ref 0), some (.ref 13), some (.ref 103), some (.int 0)] := gL_ex (vs := [.ref 0, .ref 13, .ref 103, .int 0]) k1
    subst e1
    match st', k2 with
    | [v], k2 =>
      obtain ⟨y, rfl, hy⟩ := k2.1
      unfold gI at hy
      rw [if_pos (by decide)] at hy
      have hl : 13 ≤ h1.length := by
        have := (List.getElem?_eq_some_iff.mp g2).1
        have e := gA_len g1
        have e2 : ah1.flatten.length = 145 := by decide +kernel
        omega
      have hs2 : h2[0]? = some (.inr (.inl (0, scr))) := ((k5 hl).2 0 (by decide)).trans g2
      have hh2 : gH ah1.flatten h2 := by
        rw [(bset_eq ah1_ok 0 _).1] at k3
        have := gA_set k3 0 (a := .inl (2000, [])) (b := .inr (.inl (0, scr))) (Or.inl rfl)
        rw [List.set_set] at this
        have hz : h2.set 0 (.inr (.inl (0, scr))) = h2 := by
          rw [List.getElem?_eq_some_iff] at hs2
          obtain ⟨q1, q2⟩ := hs2
          rw [← q2, List.set_getElem_self]
        rw [hz] at this
        exact this
      obtain ⟨h', r1, r2, r3⟩ := tr_all hy.1 hy.2 h6 hh2 hs2
      refine ⟨200000, h', ?_, r2, r3⟩
      have e := g3 (11 + 199979)
      rw [k4 199979, r1] at e
      exact e
  · obtain ⟨h', r1, r2, r3⟩ : ∃ h', xrun xft xP (xex xft xP 200000 100) md_law 199990 10 [some (.ref 0), some (.ref 13), some (.ref 103), some (.int 0)] [] h1 = some (some (.int 1), h') ∧ h'.length ≤ 1000 ∧ xsz h' ≤ 100000 := by
      have hb := box_top scr
      generalize hn : scr.length = n at *
      match n, hs, h6 with
      | 0, _, _ => exact bans_ok (fun k as h r q => cex_ok 100 k as h r q) sh_0 (st := []) trivial hb g1 g2
      | 1, _, _ => exact bans_ok (fun k as h r q => cex_ok 100 k as h r q) sh_1 (st := []) trivial hb g1 g2
      | 2, _, _ => exact bans_ok (fun k as h r q => cex_ok 100 k as h r q) sh_2 (st := []) trivial hb g1 g2
      | 3, _, _ => exact bans_ok (fun k as h r q => cex_ok 100 k as h r q) sh_3 (st := []) trivial hb g1 g2
      | 4, _, _ => exact bans_ok (fun k as h r q => cex_ok 100 k as h r q) sh_4 (st := []) trivial hb g1 g2
      | 5, _, _ => exact bans_ok (fun k as h r q => cex_ok 100 k as h r q) sh_5 (st := []) trivial hb g1 g2
      | k + 6, h, h2 => exact absurd (show k + 6 = 6 by omega) h2
    refine ⟨200000, h', ?_, r2, r3⟩
    have e := g3 199990
    rw [r1] at e
    exact e

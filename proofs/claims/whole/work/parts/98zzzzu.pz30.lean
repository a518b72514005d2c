/-! ===== the law's loop ===== -/
section JVE
variable {S : List jw_S} {D : Nat} {cd : List xI} {i : Nat} {ls : jw_L} {st : List jw_V} {σ : jw_H} {Q : Option jw_V → jw_H → Prop}
/-- equal answers go on -/
theorem jv_W_ei {pc m a : Nat} {off : Int} {tg : List Nat} {v : Int} (hq : cd[i]? = some (pc, .if_icmp .eq off, m, a, tg)) (k : jw_W S D cd a ls st σ Q) : jw_W S D cd i ls (.inl v :: .inl v :: st) σ Q := by
  refine jw_W_step k (fun h hh => ⟨h, hh, fun _ _ => jw_xp hq ?_⟩)
  show xic i _ (.int (Int32.ofInt v) :: .int (Int32.ofInt v) :: _) a .eq = _
  unfold xic
  exact if_pos rfl
theorem jv_cmp (x : Int64) : lg_cmp x x = Int32.ofInt 0 := by
  unfold lg_cmp
  rw [if_neg (fun w : x < x => by rw [Int64.lt_iff_toInt_lt] at w; omega), if_pos rfl]
  rfl
theorem jv_W_el {pc m a : Nat} {tg : List Nat} {pc' m' a' : Nat} {off : Int} {tg' : List Nat} {v : Int} (hq : cd[i]? = some (pc, .lcmp, m, a, tg)) (hq' : cd[i + 1]? = some (pc', .ifCond .eq off, m', a', tg')) (k : jw_W S D cd a' ls st σ Q) : jw_W S D cd i ls (.inr (.inl v) :: .inr (.inl v) :: st) σ Q := by
  have k1 : jw_W S D cd (i + 1) ls (.inl 0 :: st) σ Q := jw_W_if hq' (by unfold jw_rg; omega) (fun _ => k) (fun h => absurd rfl h)
  refine jw_W_step k1 (fun h hh => ⟨h, hh, fun _ _ => jw_xp hq ?_⟩)
  simp only [xps, xcl, List.map_cons, jw_v, jv_cmp]
end JVE
theorem jv_a63 (x : Int) : 0 ≤ jw_and x 63 ∧ jw_and x 63 ≤ 63 := by
  unfold jw_and
  show 0 ≤ ((Int32.ofInt x).toBitVec &&& (Int32.ofInt 63).toBitVec).toInt ∧ ((Int32.ofInt x).toBitVec &&& (Int32.ofInt 63).toBitVec).toInt ≤ 63
  have e : ((Int32.ofInt x).toBitVec &&& (Int32.ofInt 63).toBitVec).toNat ≤ 63 := by
    have e1 : (Int32.ofInt 63).toBitVec.toNat = 63 := by decide
    rw [BitVec.toNat_and, e1]
    exact Nat.and_le_right
  rw [BitVec.toInt_eq_toNat_of_lt (by omega)]
  omega
abbrev jv_ls (i : Int) : jw_L := [some (.inr (.inr 0)), some (.inr (.inr 13)), some (.inr (.inr 103)), some (.inl i)]
set_option maxRecDepth 100000 in
theorem jv_o0 {n : Nat} {s : Int → Int} {σ : jw_H} {Q : Option jw_V → jw_H → Prop} (hI : jv_I n s σ) (hs : ∀ j, jw_rg (s j)) {i : Int} (i0 : 0 ≤ i) (i1 : i + 6 ≤ n) (hn : (n : Int) ≤ 3072) (next : ∀ σ', jv_I n s σ' → jw_W (js_S n) 32 md_law 1243 (jv_ls i) [] σ' Q) : jw_W (js_S n) 32 md_law 22 (jv_ls i) [] σ Q := by
  obtain ⟨o, C, hJ⟩ := hI
  have e0 : σ 0 = s := hJ.2.2.2.2.2.2
  refine jw_W_n 5 (i' := 27) (ls' := [some (.inr (.inr 0)), some (.inr (.inr 13)), some (.inr (.inr 103)), some (.inl i)]) (st' := [.inl (i + 1), .inr (.inr 0), .inr (.inr 13)]) rfl ?_
  refine jw_W_ia rfl rfl (by omega) (by omega) (by omega) ?_
  show jw_W (js_S n) _ md_law 28 [some (.inr (.inr 0)), some (.inr (.inr 13)), some (.inr (.inr 103)), some (.inl i)] [.inl (σ 0 (i + 1)), .inr (.inr 13)] σ _
  rw [e0]
  refine jw_W_n 4 (i' := 32) (ls' := [some (.inr (.inr 0)), some (.inr (.inr 13)), some (.inr (.inr 103)), some (.inl i)]) (st' := [.inl (i + 2), .inr (.inr 0), .inl (s (i + 1)), .inr (.inr 13)]) rfl ?_
  refine jw_W_ia rfl rfl (by omega) (by omega) (by omega) ?_
  show jw_W (js_S n) _ md_law 33 [some (.inr (.inr 0)), some (.inr (.inr 13)), some (.inr (.inr 103)), some (.inl i)] [.inl (σ 0 (i + 2)), .inl (s (i + 1)), .inr (.inr 13)] σ _
  rw [e0]
  refine jw_W_n 4 (i' := 37) (ls' := [some (.inr (.inr 0)), some (.inr (.inr 13)), some (.inr (.inr 103)), some (.inl i)]) (st' := [.inl (i + 3), .inr (.inr 0), .inl (s (i + 2)), .inl (s (i + 1)), .inr (.inr 13)]) rfl ?_
  refine jw_W_ia rfl rfl (by omega) (by omega) (by omega) ?_
  show jw_W (js_S n) _ md_law 38 [some (.inr (.inr 0)), some (.inr (.inr 13)), some (.inr (.inr 103)), some (.inl i)] [.inl (σ 0 (i + 3)), .inl (s (i + 2)), .inl (s (i + 1)), .inr (.inr 13)] σ _
  rw [e0]
  refine jw_W_n 4 (i' := 42) (ls' := [some (.inr (.inr 0)), some (.inr (.inr 13)), some (.inr (.inr 103)), some (.inl i)]) (st' := [.inl (i + 4), .inr (.inr 0), .inl (s (i + 3)), .inl (s (i + 2)), .inl (s (i + 1)), .inr (.inr 13)]) rfl ?_
  refine jw_W_ia rfl rfl (by omega) (by omega) (by omega) ?_
  show jw_W (js_S n) _ md_law 43 [some (.inr (.inr 0)), some (.inr (.inr 13)), some (.inr (.inr 103)), some (.inl i)] [.inl (σ 0 (i + 4)), .inl (s (i + 3)), .inl (s (i + 2)), .inl (s (i + 1)), .inr (.inr 13)] σ _
  rw [e0]
  refine jw_W_n 4 (i' := 47) (ls' := [some (.inr (.inr 0)), some (.inr (.inr 13)), some (.inr (.inr 103)), some (.inl i)]) (st' := [.inl (i + 5), .inr (.inr 0), .inl (s (i + 4)), .inl (s (i + 3)), .inl (s (i + 2)), .inl (s (i + 1)), .inr (.inr 13)]) rfl ?_
  refine jw_W_ia rfl rfl (by omega) (by omega) (by omega) ?_
  show jw_W (js_S n) _ md_law 48 [some (.inr (.inr 0)), some (.inr (.inr 13)), some (.inr (.inr 103)), some (.inl i)] [.inl (σ 0 (i + 5)), .inl (s (i + 4)), .inl (s (i + 3)), .inl (s (i + 2)), .inl (s (i + 1)), .inr (.inr 13)] σ _
  rw [e0]
  refine jw_W_call (as := [.inr (.inr 13), .inl (s (i + 1)), .inl (s (i + 2)), .inl (s (i + 3)), .inl (s (i + 4)), .inl (s (i + 5))]) (rest := []) rfl rfl rfl rfl (Nat.le_of_ble_eq_true rfl) (.inr rfl) (jv_feed hJ (hs _) (hs _) (hs _) (hs _) (hs _)) (by omega) ?_ rfl
  rintro r1 σ1 ⟨v, rfl, e1, hT⟩
  show jw_W (js_S n) _ md_law 49 [some (.inr (.inr 0)), some (.inr (.inr 13)), some (.inr (.inr 103)), some (.inl i)] [.inl v] σ1 _
  refine jw_W_n 5 (i' := 54) (ls' := [some (.inr (.inr 0)), some (.inr (.inr 13)), some (.inr (.inr 103)), some (.inl i)]) (st' := [.inl (i + 1), .inr (.inr 0), .inr (.inr 103), .inl v]) rfl ?_
  refine jw_W_ia rfl rfl (by omega) (by omega) (by omega) ?_
  show jw_W (js_S n) _ md_law 55 [some (.inr (.inr 0)), some (.inr (.inr 13)), some (.inr (.inr 103)), some (.inl i)] [.inl (σ1 0 (i + 1)), .inr (.inr 103), .inl v] σ1 _
  rw [e1]
  refine jw_W_n 4 (i' := 59) (ls' := [some (.inr (.inr 0)), some (.inr (.inr 13)), some (.inr (.inr 103)), some (.inl i)]) (st' := [.inl (i + 2), .inr (.inr 0), .inl (s (i + 1)), .inr (.inr 103), .inl v]) rfl ?_
  refine jw_W_ia rfl rfl (by omega) (by omega) (by omega) ?_
  show jw_W (js_S n) _ md_law 60 [some (.inr (.inr 0)), some (.inr (.inr 13)), some (.inr (.inr 103)), some (.inl i)] [.inl (σ1 0 (i + 2)), .inl (s (i + 1)), .inr (.inr 103), .inl v] σ1 _
  rw [e1]
  refine jw_W_n 4 (i' := 64) (ls' := [some (.inr (.inr 0)), some (.inr (.inr 13)), some (.inr (.inr 103)), some (.inl i)]) (st' := [.inl (i + 3), .inr (.inr 0), .inl (s (i + 2)), .inl (s (i + 1)), .inr (.inr 103), .inl v]) rfl ?_
  refine jw_W_ia rfl rfl (by omega) (by omega) (by omega) ?_
  show jw_W (js_S n) _ md_law 65 [some (.inr (.inr 0)), some (.inr (.inr 13)), some (.inr (.inr 103)), some (.inl i)] [.inl (σ1 0 (i + 3)), .inl (s (i + 2)), .inl (s (i + 1)), .inr (.inr 103), .inl v] σ1 _
  rw [e1]
  refine jw_W_n 4 (i' := 69) (ls' := [some (.inr (.inr 0)), some (.inr (.inr 13)), some (.inr (.inr 103)), some (.inl i)]) (st' := [.inl (i + 4), .inr (.inr 0), .inl (s (i + 3)), .inl (s (i + 2)), .inl (s (i + 1)), .inr (.inr 103), .inl v]) rfl ?_
  refine jw_W_ia rfl rfl (by omega) (by omega) (by omega) ?_
  show jw_W (js_S n) _ md_law 70 [some (.inr (.inr 0)), some (.inr (.inr 13)), some (.inr (.inr 103)), some (.inl i)] [.inl (σ1 0 (i + 4)), .inl (s (i + 3)), .inl (s (i + 2)), .inl (s (i + 1)), .inr (.inr 103), .inl v] σ1 _
  rw [e1]
  refine jw_W_n 4 (i' := 74) (ls' := [some (.inr (.inr 0)), some (.inr (.inr 13)), some (.inr (.inr 103)), some (.inl i)]) (st' := [.inl (i + 5), .inr (.inr 0), .inl (s (i + 4)), .inl (s (i + 3)), .inl (s (i + 2)), .inl (s (i + 1)), .inr (.inr 103), .inl v]) rfl ?_
  refine jw_W_ia rfl rfl (by omega) (by omega) (by omega) ?_
  show jw_W (js_S n) _ md_law 75 [some (.inr (.inr 0)), some (.inr (.inr 13)), some (.inr (.inr 103)), some (.inl i)] [.inl (σ1 0 (i + 5)), .inl (s (i + 4)), .inl (s (i + 3)), .inl (s (i + 2)), .inl (s (i + 1)), .inr (.inr 103), .inl v] σ1 _
  rw [e1]
  refine jw_W_call (as := [.inr (.inr 103), .inl (s (i + 1)), .inl (s (i + 2)), .inl (s (i + 3)), .inl (s (i + 4)), .inl (s (i + 5))]) (rest := [.inl v]) rfl rfl rfl rfl (Nat.le_of_ble_eq_true rfl) (.inr rfl) hT (by omega) ?_ rfl
  rintro r1 σ2 ⟨rfl, hI2⟩
  show jw_W (js_S n) _ md_law 76 [some (.inr (.inr 0)), some (.inr (.inr 13)), some (.inr (.inr 103)), some (.inl i)] [.inl v, .inl v] σ2 _
  exact jv_W_ei rfl (next σ2 hI2)
set_option maxRecDepth 100000 in
theorem jv_o1 {n : Nat} {s : Int → Int} {σ : jw_H} {Q : Option jw_V → jw_H → Prop} (hI : jv_I n s σ) (hs : ∀ j, jw_rg (s j)) {i : Int} (i0 : 0 ≤ i) (i1 : i + 6 ≤ n) (hn : (n : Int) ≤ 3072) (next : ∀ σ', jv_I n s σ' → jw_W (js_S n) 32 md_law 1243 (jv_ls i) [] σ' Q) : jw_W (js_S n) 32 md_law 79 (jv_ls i) [] σ Q := by
  obtain ⟨o, C, hJ⟩ := hI
  have e0 : σ 0 = s := hJ.2.2.2.2.2.2
  refine jw_W_n 5 (i' := 84) (ls' := [some (.inr (.inr 0)), some (.inr (.inr 13)), some (.inr (.inr 103)), some (.inl i)]) (st' := [.inl (i + 1), .inr (.inr 0), .inr (.inr 13)]) rfl ?_
  refine jw_W_ia rfl rfl (by omega) (by omega) (by omega) ?_
  show jw_W (js_S n) _ md_law 85 [some (.inr (.inr 0)), some (.inr (.inr 13)), some (.inr (.inr 103)), some (.inl i)] [.inl (σ 0 (i + 1)), .inr (.inr 13)] σ _
  rw [e0]
  refine jw_W_call (as := [.inr (.inr 13), .inl (s (i + 1))]) (rest := []) rfl rfl rfl rfl (Nat.le_of_ble_eq_true rfl) (.inr rfl) (jv_law hJ (hs _)) (by omega) ?_ rfl
  rintro r1 σ1 ⟨v, rfl, e1, hT⟩
  show jw_W (js_S n) _ md_law 86 [some (.inr (.inr 0)), some (.inr (.inr 13)), some (.inr (.inr 103)), some (.inl i)] [.inl v] σ1 _
  refine jw_W_n 5 (i' := 91) (ls' := [some (.inr (.inr 0)), some (.inr (.inr 13)), some (.inr (.inr 103)), some (.inl i)]) (st' := [.inl (i + 1), .inr (.inr 0), .inr (.inr 103), .inl v]) rfl ?_
  refine jw_W_ia rfl rfl (by omega) (by omega) (by omega) ?_
  show jw_W (js_S n) _ md_law 92 [some (.inr (.inr 0)), some (.inr (.inr 13)), some (.inr (.inr 103)), some (.inl i)] [.inl (σ1 0 (i + 1)), .inr (.inr 103), .inl v] σ1 _
  rw [e1]
  refine jw_W_call (as := [.inr (.inr 103), .inl (s (i + 1))]) (rest := [.inl v]) rfl rfl rfl rfl (Nat.le_of_ble_eq_true rfl) (.inr rfl) hT (by omega) ?_ rfl
  rintro r1 σ2 ⟨rfl, hI2⟩
  show jw_W (js_S n) _ md_law 93 [some (.inr (.inr 0)), some (.inr (.inr 13)), some (.inr (.inr 103)), some (.inl i)] [.inl v, .inl v] σ2 _
  exact jv_W_ei rfl (next σ2 hI2)
set_option maxRecDepth 100000 in
theorem jv_o2 {n : Nat} {s : Int → Int} {σ : jw_H} {Q : Option jw_V → jw_H → Prop} (hI : jv_I n s σ) (hs : ∀ j, jw_rg (s j)) {i : Int} (i0 : 0 ≤ i) (i1 : i + 6 ≤ n) (hn : (n : Int) ≤ 3072) (next : ∀ σ', jv_I n s σ' → jw_W (js_S n) 32 md_law 1243 (jv_ls i) [] σ' Q) : jw_W (js_S n) 32 md_law 96 (jv_ls i) [] σ Q := by
  obtain ⟨o, C, hJ⟩ := hI
  have e0 : σ 0 = s := hJ.2.2.2.2.2.2
  refine jw_W_n 5 (i' := 101) (ls' := [some (.inr (.inr 0)), some (.inr (.inr 13)), some (.inr (.inr 103)), some (.inl i)]) (st' := [.inl (i + 1), .inr (.inr 0), .inr (.inr 13)]) rfl ?_
  refine jw_W_ia rfl rfl (by omega) (by omega) (by omega) ?_
  show jw_W (js_S n) _ md_law 102 [some (.inr (.inr 0)), some (.inr (.inr 13)), some (.inr (.inr 103)), some (.inl i)] [.inl (σ 0 (i + 1)), .inr (.inr 13)] σ _
  rw [e0]
  refine jw_W_call (as := [.inr (.inr 13), .inl (s (i + 1))]) (rest := []) rfl rfl rfl rfl (Nat.le_of_ble_eq_true rfl) (.inr rfl) (jv_problem hJ (hs _)) (by omega) ?_ rfl
  rintro r1 σ1 ⟨v, rfl, e1, hT⟩
  show jw_W (js_S n) _ md_law 103 [some (.inr (.inr 0)), some (.inr (.inr 13)), some (.inr (.inr 103)), some (.inl i)] [.inl v] σ1 _
  refine jw_W_n 5 (i' := 108) (ls' := [some (.inr (.inr 0)), some (.inr (.inr 13)), some (.inr (.inr 103)), some (.inl i)]) (st' := [.inl (i + 1), .inr (.inr 0), .inr (.inr 103), .inl v]) rfl ?_
  refine jw_W_ia rfl rfl (by omega) (by omega) (by omega) ?_
  show jw_W (js_S n) _ md_law 109 [some (.inr (.inr 0)), some (.inr (.inr 13)), some (.inr (.inr 103)), some (.inl i)] [.inl (σ1 0 (i + 1)), .inr (.inr 103), .inl v] σ1 _
  rw [e1]
  refine jw_W_call (as := [.inr (.inr 103), .inl (s (i + 1))]) (rest := [.inl v]) rfl rfl rfl rfl (Nat.le_of_ble_eq_true rfl) (.inr rfl) hT (by omega) ?_ rfl
  rintro r1 σ2 ⟨rfl, hI2⟩
  show jw_W (js_S n) _ md_law 110 [some (.inr (.inr 0)), some (.inr (.inr 13)), some (.inr (.inr 103)), some (.inl i)] [.inl v, .inl v] σ2 _
  exact jv_W_ei rfl (next σ2 hI2)
set_option maxRecDepth 100000 in
theorem jv_o3 {n : Nat} {s : Int → Int} {σ : jw_H} {Q : Option jw_V → jw_H → Prop} (hI : jv_I n s σ) (hs : ∀ j, jw_rg (s j)) {i : Int} (i0 : 0 ≤ i) (i1 : i + 6 ≤ n) (hn : (n : Int) ≤ 3072) (next : ∀ σ', jv_I n s σ' → jw_W (js_S n) 32 md_law 1243 (jv_ls i) [] σ' Q) : jw_W (js_S n) 32 md_law 113 (jv_ls i) [] σ Q := by
  obtain ⟨o, C, hJ⟩ := hI
  have e0 : σ 0 = s := hJ.2.2.2.2.2.2
  refine jw_W_n 5 (i' := 118) (ls' := [some (.inr (.inr 0)), some (.inr (.inr 13)), some (.inr (.inr 103)), some (.inl i)]) (st' := [.inl (i + 1), .inr (.inr 0), .inr (.inr 13)]) rfl ?_
  refine jw_W_ia rfl rfl (by omega) (by omega) (by omega) ?_
  show jw_W (js_S n) _ md_law 119 [some (.inr (.inr 0)), some (.inr (.inr 13)), some (.inr (.inr 103)), some (.inl i)] [.inl (σ 0 (i + 1)), .inr (.inr 13)] σ _
  rw [e0]
  refine jw_W_call (as := [.inr (.inr 13), .inl (s (i + 1))]) (rest := []) rfl rfl rfl rfl (Nat.le_of_ble_eq_true rfl) (.inr rfl) (jv_problemIs hJ (hs _)) (by omega) ?_ rfl
  rintro r1 σ1 ⟨v, rfl, e1, hT⟩
  show jw_W (js_S n) _ md_law 120 [some (.inr (.inr 0)), some (.inr (.inr 13)), some (.inr (.inr 103)), some (.inl i)] [.inl v] σ1 _
  refine jw_W_n 5 (i' := 125) (ls' := [some (.inr (.inr 0)), some (.inr (.inr 13)), some (.inr (.inr 103)), some (.inl i)]) (st' := [.inl (i + 1), .inr (.inr 0), .inr (.inr 103), .inl v]) rfl ?_
  refine jw_W_ia rfl rfl (by omega) (by omega) (by omega) ?_
  show jw_W (js_S n) _ md_law 126 [some (.inr (.inr 0)), some (.inr (.inr 13)), some (.inr (.inr 103)), some (.inl i)] [.inl (σ1 0 (i + 1)), .inr (.inr 103), .inl v] σ1 _
  rw [e1]
  refine jw_W_call (as := [.inr (.inr 103), .inl (s (i + 1))]) (rest := [.inl v]) rfl rfl rfl rfl (Nat.le_of_ble_eq_true rfl) (.inr rfl) hT (by omega) ?_ rfl
  rintro r1 σ2 ⟨rfl, hI2⟩
  show jw_W (js_S n) _ md_law 127 [some (.inr (.inr 0)), some (.inr (.inr 13)), some (.inr (.inr 103)), some (.inl i)] [.inl v, .inl v] σ2 _
  exact jv_W_ei rfl (next σ2 hI2)
set_option maxRecDepth 100000 in
theorem jv_o4 {n : Nat} {s : Int → Int} {σ : jw_H} {Q : Option jw_V → jw_H → Prop} (hI : jv_I n s σ) (hs : ∀ j, jw_rg (s j)) {i : Int} (i0 : 0 ≤ i) (i1 : i + 6 ≤ n) (hn : (n : Int) ≤ 3072) (next : ∀ σ', jv_I n s σ' → jw_W (js_S n) 32 md_law 1243 (jv_ls i) [] σ' Q) : jw_W (js_S n) 32 md_law 130 (jv_ls i) [] σ Q := by
  obtain ⟨o, C, hJ⟩ := hI
  have e0 : σ 0 = s := hJ.2.2.2.2.2.2
  refine jw_W_n 5 (i' := 135) (ls' := [some (.inr (.inr 0)), some (.inr (.inr 13)), some (.inr (.inr 103)), some (.inl i)]) (st' := [.inl (i + 1), .inr (.inr 0), .inr (.inr 13)]) rfl ?_
  refine jw_W_ia rfl rfl (by omega) (by omega) (by omega) ?_
  show jw_W (js_S n) _ md_law 136 [some (.inr (.inr 0)), some (.inr (.inr 13)), some (.inr (.inr 103)), some (.inl i)] [.inl (σ 0 (i + 1)), .inr (.inr 13)] σ _
  rw [e0]
  refine jw_W_n 4 (i' := 140) (ls' := [some (.inr (.inr 0)), some (.inr (.inr 13)), some (.inr (.inr 103)), some (.inl i)]) (st' := [.inl (i + 2), .inr (.inr 0), .inl (s (i + 1)), .inr (.inr 13)]) rfl ?_
  refine jw_W_ia rfl rfl (by omega) (by omega) (by omega) ?_
  show jw_W (js_S n) _ md_law 141 [some (.inr (.inr 0)), some (.inr (.inr 13)), some (.inr (.inr 103)), some (.inl i)] [.inl (σ 0 (i + 2)), .inl (s (i + 1)), .inr (.inr 13)] σ _
  rw [e0]
  refine jw_W_call (as := [.inr (.inr 13), .inl (s (i + 1)), .inl (s (i + 2))]) (rest := []) rfl rfl rfl rfl (Nat.le_of_ble_eq_true rfl) (.inr rfl) (jv_wish hJ (hs _) (hs _)) (by omega) ?_ rfl
  rintro r1 σ1 ⟨v, rfl, e1, hT⟩
  show jw_W (js_S n) _ md_law 142 [some (.inr (.inr 0)), some (.inr (.inr 13)), some (.inr (.inr 103)), some (.inl i)] [.inl v] σ1 _
  refine jw_W_n 5 (i' := 147) (ls' := [some (.inr (.inr 0)), some (.inr (.inr 13)), some (.inr (.inr 103)), some (.inl i)]) (st' := [.inl (i + 1), .inr (.inr 0), .inr (.inr 103), .inl v]) rfl ?_
  refine jw_W_ia rfl rfl (by omega) (by omega) (by omega) ?_
  show jw_W (js_S n) _ md_law 148 [some (.inr (.inr 0)), some (.inr (.inr 13)), some (.inr (.inr 103)), some (.inl i)] [.inl (σ1 0 (i + 1)), .inr (.inr 103), .inl v] σ1 _
  rw [e1]
  refine jw_W_n 4 (i' := 152) (ls' := [some (.inr (.inr 0)), some (.inr (.inr 13)), some (.inr (.inr 103)), some (.inl i)]) (st' := [.inl (i + 2), .inr (.inr 0), .inl (s (i + 1)), .inr (.inr 103), .inl v]) rfl ?_
  refine jw_W_ia rfl rfl (by omega) (by omega) (by omega) ?_
  show jw_W (js_S n) _ md_law 153 [some (.inr (.inr 0)), some (.inr (.inr 13)), some (.inr (.inr 103)), some (.inl i)] [.inl (σ1 0 (i + 2)), .inl (s (i + 1)), .inr (.inr 103), .inl v] σ1 _
  rw [e1]
  refine jw_W_call (as := [.inr (.inr 103), .inl (s (i + 1)), .inl (s (i + 2))]) (rest := [.inl v]) rfl rfl rfl rfl (Nat.le_of_ble_eq_true rfl) (.inr rfl) hT (by omega) ?_ rfl
  rintro r1 σ2 ⟨rfl, hI2⟩
  show jw_W (js_S n) _ md_law 154 [some (.inr (.inr 0)), some (.inr (.inr 13)), some (.inr (.inr 103)), some (.inl i)] [.inl v, .inl v] σ2 _
  exact jv_W_ei rfl (next σ2 hI2)
set_option maxRecDepth 100000 in
theorem jv_o5 {n : Nat} {s : Int → Int} {σ : jw_H} {Q : Option jw_V → jw_H → Prop} (hI : jv_I n s σ) (hs : ∀ j, jw_rg (s j)) {i : Int} (i0 : 0 ≤ i) (i1 : i + 6 ≤ n) (hn : (n : Int) ≤ 3072) (next : ∀ σ', jv_I n s σ' → jw_W (js_S n) 32 md_law 1243 (jv_ls i) [] σ' Q) : jw_W (js_S n) 32 md_law 157 (jv_ls i) [] σ Q := by
  obtain ⟨o, C, hJ⟩ := hI
  have e0 : σ 0 = s := hJ.2.2.2.2.2.2
  refine jw_W_n 5 (i' := 162) (ls' := [some (.inr (.inr 0)), some (.inr (.inr 13)), some (.inr (.inr 103)), some (.inl i)]) (st' := [.inl (i + 1), .inr (.inr 0), .inr (.inr 13)]) rfl ?_
  refine jw_W_ia rfl rfl (by omega) (by omega) (by omega) ?_
  show jw_W (js_S n) _ md_law 163 [some (.inr (.inr 0)), some (.inr (.inr 13)), some (.inr (.inr 103)), some (.inl i)] [.inl (σ 0 (i + 1)), .inr (.inr 13)] σ _
  rw [e0]
  refine jw_W_n 4 (i' := 167) (ls' := [some (.inr (.inr 0)), some (.inr (.inr 13)), some (.inr (.inr 103)), some (.inl i)]) (st' := [.inl (i + 2), .inr (.inr 0), .inl (s (i + 1)), .inr (.inr 13)]) rfl ?_
  refine jw_W_ia rfl rfl (by omega) (by omega) (by omega) ?_
  show jw_W (js_S n) _ md_law 168 [some (.inr (.inr 0)), some (.inr (.inr 13)), some (.inr (.inr 103)), some (.inl i)] [.inl (σ 0 (i + 2)), .inl (s (i + 1)), .inr (.inr 13)] σ _
  rw [e0]
  refine jw_W_call (as := [.inr (.inr 13), .inl (s (i + 1)), .inl (s (i + 2))]) (rest := []) rfl rfl rfl rfl (Nat.le_of_ble_eq_true rfl) (.inr rfl) (jv_plane hJ (hs _) (hs _)) (by omega) ?_ rfl
  rintro r1 σ1 ⟨v, rfl, e1, hT⟩
  show jw_W (js_S n) _ md_law 169 [some (.inr (.inr 0)), some (.inr (.inr 13)), some (.inr (.inr 103)), some (.inl i)] [.inl v] σ1 _
  refine jw_W_n 5 (i' := 174) (ls' := [some (.inr (.inr 0)), some (.inr (.inr 13)), some (.inr (.inr 103)), some (.inl i)]) (st' := [.inl (i + 1), .inr (.inr 0), .inr (.inr 103), .inl v]) rfl ?_
  refine jw_W_ia rfl rfl (by omega) (by omega) (by omega) ?_
  show jw_W (js_S n) _ md_law 175 [some (.inr (.inr 0)), some (.inr (.inr 13)), some (.inr (.inr 103)), some (.inl i)] [.inl (σ1 0 (i + 1)), .inr (.inr 103), .inl v] σ1 _
  rw [e1]
  refine jw_W_n 4 (i' := 179) (ls' := [some (.inr (.inr 0)), some (.inr (.inr 13)), some (.inr (.inr 103)), some (.inl i)]) (st' := [.inl (i + 2), .inr (.inr 0), .inl (s (i + 1)), .inr (.inr 103), .inl v]) rfl ?_
  refine jw_W_ia rfl rfl (by omega) (by omega) (by omega) ?_
  show jw_W (js_S n) _ md_law 180 [some (.inr (.inr 0)), some (.inr (.inr 13)), some (.inr (.inr 103)), some (.inl i)] [.inl (σ1 0 (i + 2)), .inl (s (i + 1)), .inr (.inr 103), .inl v] σ1 _
  rw [e1]
  refine jw_W_call (as := [.inr (.inr 103), .inl (s (i + 1)), .inl (s (i + 2))]) (rest := [.inl v]) rfl rfl rfl rfl (Nat.le_of_ble_eq_true rfl) (.inr rfl) hT (by omega) ?_ rfl
  rintro r1 σ2 ⟨rfl, hI2⟩
  show jw_W (js_S n) _ md_law 181 [some (.inr (.inr 0)), some (.inr (.inr 13)), some (.inr (.inr 103)), some (.inl i)] [.inl v, .inl v] σ2 _
  exact jv_W_ei rfl (next σ2 hI2)
set_option maxRecDepth 100000 in
theorem jv_o6 {n : Nat} {s : Int → Int} {σ : jw_H} {Q : Option jw_V → jw_H → Prop} (hI : jv_I n s σ) (hs : ∀ j, jw_rg (s j)) {i : Int} (i0 : 0 ≤ i) (i1 : i + 6 ≤ n) (hn : (n : Int) ≤ 3072) (next : ∀ σ', jv_I n s σ' → jw_W (js_S n) 32 md_law 1243 (jv_ls i) [] σ' Q) : jw_W (js_S n) 32 md_law 184 (jv_ls i) [] σ Q := by
  obtain ⟨o, C, hJ⟩ := hI
  have e0 : σ 0 = s := hJ.2.2.2.2.2.2
  refine jw_W_n 5 (i' := 189) (ls' := [some (.inr (.inr 0)), some (.inr (.inr 13)), some (.inr (.inr 103)), some (.inl i)]) (st' := [.inl (i + 1), .inr (.inr 0), .inr (.inr 13)]) rfl ?_
  refine jw_W_ia rfl rfl (by omega) (by omega) (by omega) ?_
  show jw_W (js_S n) _ md_law 190 [some (.inr (.inr 0)), some (.inr (.inr 13)), some (.inr (.inr 103)), some (.inl i)] [.inl (σ 0 (i + 1)), .inr (.inr 13)] σ _
  rw [e0]
  refine jw_W_n 4 (i' := 194) (ls' := [some (.inr (.inr 0)), some (.inr (.inr 13)), some (.inr (.inr 103)), some (.inl i)]) (st' := [.inl (i + 2), .inr (.inr 0), .inl (s (i + 1)), .inr (.inr 13)]) rfl ?_
  refine jw_W_ia rfl rfl (by omega) (by omega) (by omega) ?_
  show jw_W (js_S n) _ md_law 195 [some (.inr (.inr 0)), some (.inr (.inr 13)), some (.inr (.inr 103)), some (.inl i)] [.inl (σ 0 (i + 2)), .inl (s (i + 1)), .inr (.inr 13)] σ _
  rw [e0]
  refine jw_W_call (as := [.inr (.inr 13), .inl (s (i + 1)), .inl (s (i + 2))]) (rest := []) rfl rfl rfl rfl (Nat.le_of_ble_eq_true rfl) (.inr rfl) (jv_corner hJ (hs _) (hs _)) (by omega) ?_ rfl
  rintro r1 σ1 ⟨v, rfl, e1, hT⟩
  show jw_W (js_S n) _ md_law 196 [some (.inr (.inr 0)), some (.inr (.inr 13)), some (.inr (.inr 103)), some (.inl i)] [.inr (.inl v)] σ1 _
  refine jw_W_n 5 (i' := 201) (ls' := [some (.inr (.inr 0)), some (.inr (.inr 13)), some (.inr (.inr 103)), some (.inl i)]) (st' := [.inl (i + 1), .inr (.inr 0), .inr (.inr 103), .inr (.inl v)]) rfl ?_
  refine jw_W_ia rfl rfl (by omega) (by omega) (by omega) ?_
  show jw_W (js_S n) _ md_law 202 [some (.inr (.inr 0)), some (.inr (.inr 13)), some (.inr (.inr 103)), some (.inl i)] [.inl (σ1 0 (i + 1)), .inr (.inr 103), .inr (.inl v)] σ1 _
  rw [e1]
  refine jw_W_n 4 (i' := 206) (ls' := [some (.inr (.inr 0)), some (.inr (.inr 13)), some (.inr (.inr 103)), some (.inl i)]) (st' := [.inl (i + 2), .inr (.inr 0), .inl (s (i + 1)), .inr (.inr 103), .inr (.inl v)]) rfl ?_
  refine jw_W_ia rfl rfl (by omega) (by omega) (by omega) ?_
  show jw_W (js_S n) _ md_law 207 [some (.inr (.inr 0)), some (.inr (.inr 13)), some (.inr (.inr 103)), some (.inl i)] [.inl (σ1 0 (i + 2)), .inl (s (i + 1)), .inr (.inr 103), .inr (.inl v)] σ1 _
  rw [e1]
  refine jw_W_call (as := [.inr (.inr 103), .inl (s (i + 1)), .inl (s (i + 2))]) (rest := [.inr (.inl v)]) rfl rfl rfl rfl (Nat.le_of_ble_eq_true rfl) (.inr rfl) hT (by omega) ?_ rfl
  rintro r1 σ2 ⟨rfl, hI2⟩
  show jw_W (js_S n) _ md_law 208 [some (.inr (.inr 0)), some (.inr (.inr 13)), some (.inr (.inr 103)), some (.inl i)] [.inr (.inl v), .inr (.inl v)] σ2 _
  exact jv_W_el rfl rfl (next σ2 hI2)
set_option maxRecDepth 100000 in
theorem jv_o7 {n : Nat} {s : Int → Int} {σ : jw_H} {Q : Option jw_V → jw_H → Prop} (hI : jv_I n s σ) (hs : ∀ j, jw_rg (s j)) {i : Int} (i0 : 0 ≤ i) (i1 : i + 6 ≤ n) (hn : (n : Int) ≤ 3072) (next : ∀ σ', jv_I n s σ' → jw_W (js_S n) 32 md_law 1243 (jv_ls i) [] σ' Q) : jw_W (js_S n) 32 md_law 212 (jv_ls i) [] σ Q := by
  obtain ⟨o, C, hJ⟩ := hI
  have e0 : σ 0 = s := hJ.2.2.2.2.2.2
  refine jw_W_n 5 (i' := 217) (ls' := [some (.inr (.inr 0)), some (.inr (.inr 13)), some (.inr (.inr 103)), some (.inl i)]) (st' := [.inl (i + 1), .inr (.inr 0), .inr (.inr 13)]) rfl ?_
  refine jw_W_ia rfl rfl (by omega) (by omega) (by omega) ?_
  show jw_W (js_S n) _ md_law 218 [some (.inr (.inr 0)), some (.inr (.inr 13)), some (.inr (.inr 103)), some (.inl i)] [.inl (σ 0 (i + 1)), .inr (.inr 13)] σ _
  rw [e0]
  refine jw_W_n 4 (i' := 222) (ls' := [some (.inr (.inr 0)), some (.inr (.inr 13)), some (.inr (.inr 103)), some (.inl i)]) (st' := [.inl (i + 2), .inr (.inr 0), .inl (s (i + 1)), .inr (.inr 13)]) rfl ?_
  refine jw_W_ia rfl rfl (by omega) (by omega) (by omega) ?_
  show jw_W (js_S n) _ md_law 223 [some (.inr (.inr 0)), some (.inr (.inr 13)), some (.inr (.inr 103)), some (.inl i)] [.inl (σ 0 (i + 2)), .inl (s (i + 1)), .inr (.inr 13)] σ _
  rw [e0]
  refine jw_W_n 4 (i' := 227) (ls' := [some (.inr (.inr 0)), some (.inr (.inr 13)), some (.inr (.inr 103)), some (.inl i)]) (st' := [.inl (i + 3), .inr (.inr 0), .inl (s (i + 2)), .inl (s (i + 1)), .inr (.inr 13)]) rfl ?_
  refine jw_W_ia rfl rfl (by omega) (by omega) (by omega) ?_
  show jw_W (js_S n) _ md_law 228 [some (.inr (.inr 0)), some (.inr (.inr 13)), some (.inr (.inr 103)), some (.inl i)] [.inl (σ 0 (i + 3)), .inl (s (i + 2)), .inl (s (i + 1)), .inr (.inr 13)] σ _
  rw [e0]
  refine jw_W_call (as := [.inr (.inr 13), .inl (s (i + 1)), .inl (s (i + 2)), .inl (s (i + 3))]) (rest := []) rfl rfl rfl rfl (Nat.le_of_ble_eq_true rfl) (.inr rfl) (jv_wishAt hJ (hs _) (hs _) (hs _)) (by omega) ?_ rfl
  rintro r1 σ1 ⟨v, rfl, e1, hT⟩
  show jw_W (js_S n) _ md_law 229 [some (.inr (.inr 0)), some (.inr (.inr 13)), some (.inr (.inr 103)), some (.inl i)] [.inr (.inl v)] σ1 _
  refine jw_W_n 5 (i' := 234) (ls' := [some (.inr (.inr 0)), some (.inr (.inr 13)), some (.inr (.inr 103)), some (.inl i)]) (st' := [.inl (i + 1), .inr (.inr 0), .inr (.inr 103), .inr (.inl v)]) rfl ?_
  refine jw_W_ia rfl rfl (by omega) (by omega) (by omega) ?_
  show jw_W (js_S n) _ md_law 235 [some (.inr (.inr 0)), some (.inr (.inr 13)), some (.inr (.inr 103)), some (.inl i)] [.inl (σ1 0 (i + 1)), .inr (.inr 103), .inr (.inl v)] σ1 _
  rw [e1]
  refine jw_W_n 4 (i' := 239) (ls' := [some (.inr (.inr 0)), some (.inr (.inr 13)), some (.inr (.inr 103)), some (.inl i)]) (st' := [.inl (i + 2), .inr (.inr 0), .inl (s (i + 1)), .inr (.inr 103), .inr (.inl v)]) rfl ?_
  refine jw_W_ia rfl rfl (by omega) (by omega) (by omega) ?_
  show jw_W (js_S n) _ md_law 240 [some (.inr (.inr 0)), some (.inr (.inr 13)), some (.inr (.inr 103)), some (.inl i)] [.inl (σ1 0 (i + 2)), .inl (s (i + 1)), .inr (.inr 103), .inr (.inl v)] σ1 _
  rw [e1]
  refine jw_W_n 4 (i' := 244) (ls' := [some (.inr (.inr 0)), some (.inr (.inr 13)), some (.inr (.inr 103)), some (.inl i)]) (st' := [.inl (i + 3), .inr (.inr 0), .inl (s (i + 2)), .inl (s (i + 1)), .inr (.inr 103), .inr (.inl v)]) rfl ?_
  refine jw_W_ia rfl rfl (by omega) (by omega) (by omega) ?_
  show jw_W (js_S n) _ md_law 245 [some (.inr (.inr 0)), some (.inr (.inr 13)), some (.inr (.inr 103)), some (.inl i)] [.inl (σ1 0 (i + 3)), .inl (s (i + 2)), .inl (s (i + 1)), .inr (.inr 103), .inr (.inl v)] σ1 _
  rw [e1]
  refine jw_W_call (as := [.inr (.inr 103), .inl (s (i + 1)), .inl (s (i + 2)), .inl (s (i + 3))]) (rest := [.inr (.inl v)]) rfl rfl rfl rfl (Nat.le_of_ble_eq_true rfl) (.inr rfl) hT (by omega) ?_ rfl
  rintro r1 σ2 ⟨rfl, hI2⟩
  show jw_W (js_S n) _ md_law 246 [some (.inr (.inr 0)), some (.inr (.inr 13)), some (.inr (.inr 103)), some (.inl i)] [.inr (.inl v), .inr (.inl v)] σ2 _
  exact jv_W_el rfl rfl (next σ2 hI2)
set_option maxRecDepth 100000 in
theorem jv_o8 {n : Nat} {s : Int → Int} {σ : jw_H} {Q : Option jw_V → jw_H → Prop} (hI : jv_I n s σ) (hs : ∀ j, jw_rg (s j)) {i : Int} (i0 : 0 ≤ i) (i1 : i + 6 ≤ n) (hn : (n : Int) ≤ 3072) (next : ∀ σ', jv_I n s σ' → jw_W (js_S n) 32 md_law 1243 (jv_ls i) [] σ' Q) : jw_W (js_S n) 32 md_law 250 (jv_ls i) [] σ Q := by
  obtain ⟨o, C, hJ⟩ := hI
  have e0 : σ 0 = s := hJ.2.2.2.2.2.2
  refine jw_W_n 5 (i' := 255) (ls' := [some (.inr (.inr 0)), some (.inr (.inr 13)), some (.inr (.inr 103)), some (.inl i)]) (st' := [.inl (i + 1), .inr (.inr 0), .inr (.inr 13)]) rfl ?_
  refine jw_W_ia rfl rfl (by omega) (by omega) (by omega) ?_
  show jw_W (js_S n) _ md_law 256 [some (.inr (.inr 0)), some (.inr (.inr 13)), some (.inr (.inr 103)), some (.inl i)] [.inl (σ 0 (i + 1)), .inr (.inr 13)] σ _
  rw [e0]
  refine jw_W_n 4 (i' := 260) (ls' := [some (.inr (.inr 0)), some (.inr (.inr 13)), some (.inr (.inr 103)), some (.inl i)]) (st' := [.inl (i + 2), .inr (.inr 0), .inl (s (i + 1)), .inr (.inr 13)]) rfl ?_
  refine jw_W_ia rfl rfl (by omega) (by omega) (by omega) ?_
  show jw_W (js_S n) _ md_law 261 [some (.inr (.inr 0)), some (.inr (.inr 13)), some (.inr (.inr 103)), some (.inl i)] [.inl (σ 0 (i + 2)), .inl (s (i + 1)), .inr (.inr 13)] σ _
  rw [e0]
  refine jw_W_call (as := [.inr (.inr 13), .inl (s (i + 1)), .inl (s (i + 2))]) (rest := []) rfl rfl rfl rfl (Nat.le_of_ble_eq_true rfl) (.inr rfl) (jv_cornerIs hJ (hs _) (hs _)) (by omega) ?_ rfl
  rintro r1 σ1 ⟨v, rfl, e1, hT⟩
  show jw_W (js_S n) _ md_law 262 [some (.inr (.inr 0)), some (.inr (.inr 13)), some (.inr (.inr 103)), some (.inl i)] [.inl v] σ1 _
  refine jw_W_n 5 (i' := 267) (ls' := [some (.inr (.inr 0)), some (.inr (.inr 13)), some (.inr (.inr 103)), some (.inl i)]) (st' := [.inl (i + 1), .inr (.inr 0), .inr (.inr 103), .inl v]) rfl ?_
  refine jw_W_ia rfl rfl (by omega) (by omega) (by omega) ?_
  show jw_W (js_S n) _ md_law 268 [some (.inr (.inr 0)), some (.inr (.inr 13)), some (.inr (.inr 103)), some (.inl i)] [.inl (σ1 0 (i + 1)), .inr (.inr 103), .inl v] σ1 _
  rw [e1]
  refine jw_W_n 4 (i' := 272) (ls' := [some (.inr (.inr 0)), some (.inr (.inr 13)), some (.inr (.inr 103)), some (.inl i)]) (st' := [.inl (i + 2), .inr (.inr 0), .inl (s (i + 1)), .inr (.inr 103), .inl v]) rfl ?_
  refine jw_W_ia rfl rfl (by omega) (by omega) (by omega) ?_
  show jw_W (js_S n) _ md_law 273 [some (.inr (.inr 0)), some (.inr (.inr 13)), some (.inr (.inr 103)), some (.inl i)] [.inl (σ1 0 (i + 2)), .inl (s (i + 1)), .inr (.inr 103), .inl v] σ1 _
  rw [e1]
  refine jw_W_call (as := [.inr (.inr 103), .inl (s (i + 1)), .inl (s (i + 2))]) (rest := [.inl v]) rfl rfl rfl rfl (Nat.le_of_ble_eq_true rfl) (.inr rfl) hT (by omega) ?_ rfl
  rintro r1 σ2 ⟨rfl, hI2⟩
  show jw_W (js_S n) _ md_law 274 [some (.inr (.inr 0)), some (.inr (.inr 13)), some (.inr (.inr 103)), some (.inl i)] [.inl v, .inl v] σ2 _
  exact jv_W_ei rfl (next σ2 hI2)
set_option maxRecDepth 100000 in
theorem jv_o9 {n : Nat} {s : Int → Int} {σ : jw_H} {Q : Option jw_V → jw_H → Prop} (hI : jv_I n s σ) (hs : ∀ j, jw_rg (s j)) {i : Int} (i0 : 0 ≤ i) (i1 : i + 6 ≤ n) (hn : (n : Int) ≤ 3072) (next : ∀ σ', jv_I n s σ' → jw_W (js_S n) 32 md_law 1243 (jv_ls i) [] σ' Q) : jw_W (js_S n) 32 md_law 277 (jv_ls i) [] σ Q := by
  obtain ⟨o, C, hJ⟩ := hI
  have e0 : σ 0 = s := hJ.2.2.2.2.2.2
  refine jw_W_n 5 (i' := 282) (ls' := [some (.inr (.inr 0)), some (.inr (.inr 13)), some (.inr (.inr 103)), some (.inl i)]) (st' := [.inl (i + 1), .inr (.inr 0), .inr (.inr 13)]) rfl ?_
  refine jw_W_ia rfl rfl (by omega) (by omega) (by omega) ?_
  show jw_W (js_S n) _ md_law 283 [some (.inr (.inr 0)), some (.inr (.inr 13)), some (.inr (.inr 103)), some (.inl i)] [.inl (σ 0 (i + 1)), .inr (.inr 13)] σ _
  rw [e0]
  refine jw_W_n 4 (i' := 287) (ls' := [some (.inr (.inr 0)), some (.inr (.inr 13)), some (.inr (.inr 103)), some (.inl i)]) (st' := [.inl (i + 2), .inr (.inr 0), .inl (s (i + 1)), .inr (.inr 13)]) rfl ?_
  refine jw_W_ia rfl rfl (by omega) (by omega) (by omega) ?_
  show jw_W (js_S n) _ md_law 288 [some (.inr (.inr 0)), some (.inr (.inr 13)), some (.inr (.inr 103)), some (.inl i)] [.inl (σ 0 (i + 2)), .inl (s (i + 1)), .inr (.inr 13)] σ _
  rw [e0]
  refine jw_W_call (as := [.inr (.inr 13), .inl (s (i + 1)), .inl (s (i + 2))]) (rest := []) rfl rfl rfl rfl (Nat.le_of_ble_eq_true rfl) (.inr rfl) (jv_edge hJ (hs _) (hs _)) (by omega) ?_ rfl
  rintro r1 σ1 ⟨v, rfl, e1, hT⟩
  show jw_W (js_S n) _ md_law 289 [some (.inr (.inr 0)), some (.inr (.inr 13)), some (.inr (.inr 103)), some (.inl i)] [.inl v] σ1 _
  refine jw_W_n 5 (i' := 294) (ls' := [some (.inr (.inr 0)), some (.inr (.inr 13)), some (.inr (.inr 103)), some (.inl i)]) (st' := [.inl (i + 1), .inr (.inr 0), .inr (.inr 103), .inl v]) rfl ?_
  refine jw_W_ia rfl rfl (by omega) (by omega) (by omega) ?_
  show jw_W (js_S n) _ md_law 295 [some (.inr (.inr 0)), some (.inr (.inr 13)), some (.inr (.inr 103)), some (.inl i)] [.inl (σ1 0 (i + 1)), .inr (.inr 103), .inl v] σ1 _
  rw [e1]
  refine jw_W_n 4 (i' := 299) (ls' := [some (.inr (.inr 0)), some (.inr (.inr 13)), some (.inr (.inr 103)), some (.inl i)]) (st' := [.inl (i + 2), .inr (.inr 0), .inl (s (i + 1)), .inr (.inr 103), .inl v]) rfl ?_
  refine jw_W_ia rfl rfl (by omega) (by omega) (by omega) ?_
  show jw_W (js_S n) _ md_law 300 [some (.inr (.inr 0)), some (.inr (.inr 13)), some (.inr (.inr 103)), some (.inl i)] [.inl (σ1 0 (i + 2)), .inl (s (i + 1)), .inr (.inr 103), .inl v] σ1 _
  rw [e1]
  refine jw_W_call (as := [.inr (.inr 103), .inl (s (i + 1)), .inl (s (i + 2))]) (rest := [.inl v]) rfl rfl rfl rfl (Nat.le_of_ble_eq_true rfl) (.inr rfl) hT (by omega) ?_ rfl
  rintro r1 σ2 ⟨rfl, hI2⟩
  show jw_W (js_S n) _ md_law 301 [some (.inr (.inr 0)), some (.inr (.inr 13)), some (.inr (.inr 103)), some (.inl i)] [.inl v, .inl v] σ2 _
  exact jv_W_ei rfl (next σ2 hI2)
set_option maxRecDepth 100000 in
theorem jv_o10 {n : Nat} {s : Int → Int} {σ : jw_H} {Q : Option jw_V → jw_H → Prop} (hI : jv_I n s σ) (hs : ∀ j, jw_rg (s j)) {i : Int} (i0 : 0 ≤ i) (i1 : i + 6 ≤ n) (hn : (n : Int) ≤ 3072) (next : ∀ σ', jv_I n s σ' → jw_W (js_S n) 32 md_law 1243 (jv_ls i) [] σ' Q) : jw_W (js_S n) 32 md_law 304 (jv_ls i) [] σ Q := by
  obtain ⟨o, C, hJ⟩ := hI
  have e0 : σ 0 = s := hJ.2.2.2.2.2.2
  refine jw_W_n 5 (i' := 309) (ls' := [some (.inr (.inr 0)), some (.inr (.inr 13)), some (.inr (.inr 103)), some (.inl i)]) (st' := [.inl (i + 1), .inr (.inr 0), .inr (.inr 13)]) rfl ?_
  refine jw_W_ia rfl rfl (by omega) (by omega) (by omega) ?_
  show jw_W (js_S n) _ md_law 310 [some (.inr (.inr 0)), some (.inr (.inr 13)), some (.inr (.inr 103)), some (.inl i)] [.inl (σ 0 (i + 1)), .inr (.inr 13)] σ _
  rw [e0]
  refine jw_W_call (as := [.inr (.inr 13), .inl (s (i + 1))]) (rest := []) rfl rfl rfl rfl (Nat.le_of_ble_eq_true rfl) (.inr rfl) (jv_all hJ (hs _)) (by omega) ?_ rfl
  rintro r1 σ1 ⟨v, rfl, e1, hT⟩
  show jw_W (js_S n) _ md_law 311 [some (.inr (.inr 0)), some (.inr (.inr 13)), some (.inr (.inr 103)), some (.inl i)] [.inl v] σ1 _
  refine jw_W_n 5 (i' := 316) (ls' := [some (.inr (.inr 0)), some (.inr (.inr 13)), some (.inr (.inr 103)), some (.inl i)]) (st' := [.inl (i + 1), .inr (.inr 0), .inr (.inr 103), .inl v]) rfl ?_
  refine jw_W_ia rfl rfl (by omega) (by omega) (by omega) ?_
  show jw_W (js_S n) _ md_law 317 [some (.inr (.inr 0)), some (.inr (.inr 13)), some (.inr (.inr 103)), some (.inl i)] [.inl (σ1 0 (i + 1)), .inr (.inr 103), .inl v] σ1 _
  rw [e1]
  refine jw_W_call (as := [.inr (.inr 103), .inl (s (i + 1))]) (rest := [.inl v]) rfl rfl rfl rfl (Nat.le_of_ble_eq_true rfl) (.inr rfl) hT (by omega) ?_ rfl
  rintro r1 σ2 ⟨rfl, hI2⟩
  show jw_W (js_S n) _ md_law 318 [some (.inr (.inr 0)), some (.inr (.inr 13)), some (.inr (.inr 103)), some (.inl i)] [.inl v, .inl v] σ2 _
  exact jv_W_ei rfl (next σ2 hI2)
set_option maxRecDepth 100000 in
theorem jv_o11 {n : Nat} {s : Int → Int} {σ : jw_H} {Q : Option jw_V → jw_H → Prop} (hI : jv_I n s σ) (hs : ∀ j, jw_rg (s j)) {i : Int} (i0 : 0 ≤ i) (i1 : i + 6 ≤ n) (hn : (n : Int) ≤ 3072) (next : ∀ σ', jv_I n s σ' → jw_W (js_S n) 32 md_law 1243 (jv_ls i) [] σ' Q) : jw_W (js_S n) 32 md_law 321 (jv_ls i) [] σ Q := by
  obtain ⟨o, C, hJ⟩ := hI
  have e0 : σ 0 = s := hJ.2.2.2.2.2.2
  refine jw_W_n 5 (i' := 326) (ls' := [some (.inr (.inr 0)), some (.inr (.inr 13)), some (.inr (.inr 103)), some (.inl i)]) (st' := [.inl (i + 1), .inr (.inr 0), .inr (.inr 13)]) rfl ?_
  refine jw_W_ia rfl rfl (by omega) (by omega) (by omega) ?_
  show jw_W (js_S n) _ md_law 327 [some (.inr (.inr 0)), some (.inr (.inr 13)), some (.inr (.inr 103)), some (.inl i)] [.inl (σ 0 (i + 1)), .inr (.inr 13)] σ _
  rw [e0]
  refine jw_W_n 4 (i' := 331) (ls' := [some (.inr (.inr 0)), some (.inr (.inr 13)), some (.inr (.inr 103)), some (.inl i)]) (st' := [.inl (i + 2), .inr (.inr 0), .inl (s (i + 1)), .inr (.inr 13)]) rfl ?_
  refine jw_W_ia rfl rfl (by omega) (by omega) (by omega) ?_
  show jw_W (js_S n) _ md_law 332 [some (.inr (.inr 0)), some (.inr (.inr 13)), some (.inr (.inr 103)), some (.inl i)] [.inl (σ 0 (i + 2)), .inl (s (i + 1)), .inr (.inr 13)] σ _
  rw [e0]
  refine jw_W_call (as := [.inr (.inr 13), .inl (s (i + 1)), .inl (s (i + 2))]) (rest := []) rfl rfl rfl rfl (Nat.le_of_ble_eq_true rfl) (.inr rfl) (jv_weights hJ (hs _) (hs _)) (by omega) ?_ rfl
  rintro r1 σ1 ⟨v, rfl, e1, hT⟩
  show jw_W (js_S n) _ md_law 333 [some (.inr (.inr 0)), some (.inr (.inr 13)), some (.inr (.inr 103)), some (.inl i)] [.inr (.inl v)] σ1 _
  refine jw_W_n 5 (i' := 338) (ls' := [some (.inr (.inr 0)), some (.inr (.inr 13)), some (.inr (.inr 103)), some (.inl i)]) (st' := [.inl (i + 1), .inr (.inr 0), .inr (.inr 103), .inr (.inl v)]) rfl ?_
  refine jw_W_ia rfl rfl (by omega) (by omega) (by omega) ?_
  show jw_W (js_S n) _ md_law 339 [some (.inr (.inr 0)), some (.inr (.inr 13)), some (.inr (.inr 103)), some (.inl i)] [.inl (σ1 0 (i + 1)), .inr (.inr 103), .inr (.inl v)] σ1 _
  rw [e1]
  refine jw_W_n 4 (i' := 343) (ls' := [some (.inr (.inr 0)), some (.inr (.inr 13)), some (.inr (.inr 103)), some (.inl i)]) (st' := [.inl (i + 2), .inr (.inr 0), .inl (s (i + 1)), .inr (.inr 103), .inr (.inl v)]) rfl ?_
  refine jw_W_ia rfl rfl (by omega) (by omega) (by omega) ?_
  show jw_W (js_S n) _ md_law 344 [some (.inr (.inr 0)), some (.inr (.inr 13)), some (.inr (.inr 103)), some (.inl i)] [.inl (σ1 0 (i + 2)), .inl (s (i + 1)), .inr (.inr 103), .inr (.inl v)] σ1 _
  rw [e1]
  refine jw_W_call (as := [.inr (.inr 103), .inl (s (i + 1)), .inl (s (i + 2))]) (rest := [.inr (.inl v)]) rfl rfl rfl rfl (Nat.le_of_ble_eq_true rfl) (.inr rfl) hT (by omega) ?_ rfl
  rintro r1 σ2 ⟨rfl, hI2⟩
  show jw_W (js_S n) _ md_law 345 [some (.inr (.inr 0)), some (.inr (.inr 13)), some (.inr (.inr 103)), some (.inl i)] [.inr (.inl v), .inr (.inl v)] σ2 _
  exact jv_W_el rfl rfl (next σ2 hI2)
set_option maxRecDepth 100000 in
theorem jv_o12 {n : Nat} {s : Int → Int} {σ : jw_H} {Q : Option jw_V → jw_H → Prop} (hI : jv_I n s σ) (hs : ∀ j, jw_rg (s j)) {i : Int} (i0 : 0 ≤ i) (i1 : i + 6 ≤ n) (hn : (n : Int) ≤ 3072) (next : ∀ σ', jv_I n s σ' → jw_W (js_S n) 32 md_law 1243 (jv_ls i) [] σ' Q) : jw_W (js_S n) 32 md_law 349 (jv_ls i) [] σ Q := by
  obtain ⟨o, C, hJ⟩ := hI
  have e0 : σ 0 = s := hJ.2.2.2.2.2.2
  refine jw_W_n 5 (i' := 354) (ls' := [some (.inr (.inr 0)), some (.inr (.inr 13)), some (.inr (.inr 103)), some (.inl i)]) (st' := [.inl (i + 1), .inr (.inr 0), .inr (.inr 13)]) rfl ?_
  refine jw_W_ia rfl rfl (by omega) (by omega) (by omega) ?_
  show jw_W (js_S n) _ md_law 355 [some (.inr (.inr 0)), some (.inr (.inr 13)), some (.inr (.inr 103)), some (.inl i)] [.inl (σ 0 (i + 1)), .inr (.inr 13)] σ _
  rw [e0]
  refine jw_W_n 4 (i' := 359) (ls' := [some (.inr (.inr 0)), some (.inr (.inr 13)), some (.inr (.inr 103)), some (.inl i)]) (st' := [.inl (i + 2), .inr (.inr 0), .inl (s (i + 1)), .inr (.inr 13)]) rfl ?_
  refine jw_W_ia rfl rfl (by omega) (by omega) (by omega) ?_
  show jw_W (js_S n) _ md_law 360 [some (.inr (.inr 0)), some (.inr (.inr 13)), some (.inr (.inr 103)), some (.inl i)] [.inl (σ 0 (i + 2)), .inl (s (i + 1)), .inr (.inr 13)] σ _
  rw [e0]
  refine jw_W_call (as := [.inr (.inr 13), .inl (s (i + 1)), .inl (s (i + 2))]) (rest := []) rfl rfl rfl rfl (Nat.le_of_ble_eq_true rfl) (.inr rfl) (jv_ideal hJ (hs _) (hs _)) (by omega) ?_ rfl
  rintro r1 σ1 ⟨v, rfl, e1, hT⟩
  show jw_W (js_S n) _ md_law 361 [some (.inr (.inr 0)), some (.inr (.inr 13)), some (.inr (.inr 103)), some (.inl i)] [.inr (.inl v)] σ1 _
  refine jw_W_n 5 (i' := 366) (ls' := [some (.inr (.inr 0)), some (.inr (.inr 13)), some (.inr (.inr 103)), some (.inl i)]) (st' := [.inl (i + 1), .inr (.inr 0), .inr (.inr 103), .inr (.inl v)]) rfl ?_
  refine jw_W_ia rfl rfl (by omega) (by omega) (by omega) ?_
  show jw_W (js_S n) _ md_law 367 [some (.inr (.inr 0)), some (.inr (.inr 13)), some (.inr (.inr 103)), some (.inl i)] [.inl (σ1 0 (i + 1)), .inr (.inr 103), .inr (.inl v)] σ1 _
  rw [e1]
  refine jw_W_n 4 (i' := 371) (ls' := [some (.inr (.inr 0)), some (.inr (.inr 13)), some (.inr (.inr 103)), some (.inl i)]) (st' := [.inl (i + 2), .inr (.inr 0), .inl (s (i + 1)), .inr (.inr 103), .inr (.inl v)]) rfl ?_
  refine jw_W_ia rfl rfl (by omega) (by omega) (by omega) ?_
  show jw_W (js_S n) _ md_law 372 [some (.inr (.inr 0)), some (.inr (.inr 13)), some (.inr (.inr 103)), some (.inl i)] [.inl (σ1 0 (i + 2)), .inl (s (i + 1)), .inr (.inr 103), .inr (.inl v)] σ1 _
  rw [e1]
  refine jw_W_call (as := [.inr (.inr 103), .inl (s (i + 1)), .inl (s (i + 2))]) (rest := [.inr (.inl v)]) rfl rfl rfl rfl (Nat.le_of_ble_eq_true rfl) (.inr rfl) hT (by omega) ?_ rfl
  rintro r1 σ2 ⟨rfl, hI2⟩
  show jw_W (js_S n) _ md_law 373 [some (.inr (.inr 0)), some (.inr (.inr 13)), some (.inr (.inr 103)), some (.inl i)] [.inr (.inl v), .inr (.inl v)] σ2 _
  exact jv_W_el rfl rfl (next σ2 hI2)
set_option maxRecDepth 100000 in
theorem jv_o13 {n : Nat} {s : Int → Int} {σ : jw_H} {Q : Option jw_V → jw_H → Prop} (hI : jv_I n s σ) (hs : ∀ j, jw_rg (s j)) {i : Int} (i0 : 0 ≤ i) (i1 : i + 6 ≤ n) (hn : (n : Int) ≤ 3072) (next : ∀ σ', jv_I n s σ' → jw_W (js_S n) 32 md_law 1243 (jv_ls i) [] σ' Q) : jw_W (js_S n) 32 md_law 377 (jv_ls i) [] σ Q := by
  obtain ⟨o, C, hJ⟩ := hI
  have e0 : σ 0 = s := hJ.2.2.2.2.2.2
  refine jw_W_n 5 (i' := 382) (ls' := [some (.inr (.inr 0)), some (.inr (.inr 13)), some (.inr (.inr 103)), some (.inl i)]) (st' := [.inl (i + 1), .inr (.inr 0), .inr (.inr 13)]) rfl ?_
  refine jw_W_ia rfl rfl (by omega) (by omega) (by omega) ?_
  show jw_W (js_S n) _ md_law 383 [some (.inr (.inr 0)), some (.inr (.inr 13)), some (.inr (.inr 103)), some (.inl i)] [.inl (σ 0 (i + 1)), .inr (.inr 13)] σ _
  rw [e0]
  refine jw_W_n 4 (i' := 387) (ls' := [some (.inr (.inr 0)), some (.inr (.inr 13)), some (.inr (.inr 103)), some (.inl i)]) (st' := [.inl (i + 2), .inr (.inr 0), .inl (s (i + 1)), .inr (.inr 13)]) rfl ?_
  refine jw_W_ia rfl rfl (by omega) (by omega) (by omega) ?_
  show jw_W (js_S n) _ md_law 388 [some (.inr (.inr 0)), some (.inr (.inr 13)), some (.inr (.inr 103)), some (.inl i)] [.inl (σ 0 (i + 2)), .inl (s (i + 1)), .inr (.inr 13)] σ _
  rw [e0]
  refine jw_W_n 4 (i' := 392) (ls' := [some (.inr (.inr 0)), some (.inr (.inr 13)), some (.inr (.inr 103)), some (.inl i)]) (st' := [.inl (i + 3), .inr (.inr 0), .inl (s (i + 2)), .inl (s (i + 1)), .inr (.inr 13)]) rfl ?_
  refine jw_W_ia rfl rfl (by omega) (by omega) (by omega) ?_
  show jw_W (js_S n) _ md_law 393 [some (.inr (.inr 0)), some (.inr (.inr 13)), some (.inr (.inr 103)), some (.inl i)] [.inl (σ 0 (i + 3)), .inl (s (i + 2)), .inl (s (i + 1)), .inr (.inr 13)] σ _
  rw [e0]
  refine jw_W_n 4 (i' := 397) (ls' := [some (.inr (.inr 0)), some (.inr (.inr 13)), some (.inr (.inr 103)), some (.inl i)]) (st' := [.inl (i + 4), .inr (.inr 0), .inl (s (i + 3)), .inl (s (i + 2)), .inl (s (i + 1)), .inr (.inr 13)]) rfl ?_
  refine jw_W_ia rfl rfl (by omega) (by omega) (by omega) ?_
  show jw_W (js_S n) _ md_law 398 [some (.inr (.inr 0)), some (.inr (.inr 13)), some (.inr (.inr 103)), some (.inl i)] [.inl (σ 0 (i + 4)), .inl (s (i + 3)), .inl (s (i + 2)), .inl (s (i + 1)), .inr (.inr 13)] σ _
  rw [e0]
  refine jw_W_call (as := [.inr (.inr 13), .inl (s (i + 1)), .inl (s (i + 2)), .inl (s (i + 3)), .inl (s (i + 4))]) (rest := []) rfl rfl rfl rfl (Nat.le_of_ble_eq_true rfl) (.inr rfl) (jv_best hJ (hs _) (hs _) (hs _) (hs _)) (by omega) ?_ rfl
  rintro r1 σ1 ⟨v, rfl, e1, hT⟩
  show jw_W (js_S n) _ md_law 399 [some (.inr (.inr 0)), some (.inr (.inr 13)), some (.inr (.inr 103)), some (.inl i)] [.inr (.inl v)] σ1 _
  refine jw_W_n 5 (i' := 404) (ls' := [some (.inr (.inr 0)), some (.inr (.inr 13)), some (.inr (.inr 103)), some (.inl i)]) (st' := [.inl (i + 1), .inr (.inr 0), .inr (.inr 103), .inr (.inl v)]) rfl ?_
  refine jw_W_ia rfl rfl (by omega) (by omega) (by omega) ?_
  show jw_W (js_S n) _ md_law 405 [some (.inr (.inr 0)), some (.inr (.inr 13)), some (.inr (.inr 103)), some (.inl i)] [.inl (σ1 0 (i + 1)), .inr (.inr 103), .inr (.inl v)] σ1 _
  rw [e1]
  refine jw_W_n 4 (i' := 409) (ls' := [some (.inr (.inr 0)), some (.inr (.inr 13)), some (.inr (.inr 103)), some (.inl i)]) (st' := [.inl (i + 2), .inr (.inr 0), .inl (s (i + 1)), .inr (.inr 103), .inr (.inl v)]) rfl ?_
  refine jw_W_ia rfl rfl (by omega) (by omega) (by omega) ?_
  show jw_W (js_S n) _ md_law 410 [some (.inr (.inr 0)), some (.inr (.inr 13)), some (.inr (.inr 103)), some (.inl i)] [.inl (σ1 0 (i + 2)), .inl (s (i + 1)), .inr (.inr 103), .inr (.inl v)] σ1 _
  rw [e1]
  refine jw_W_n 4 (i' := 414) (ls' := [some (.inr (.inr 0)), some (.inr (.inr 13)), some (.inr (.inr 103)), some (.inl i)]) (st' := [.inl (i + 3), .inr (.inr 0), .inl (s (i + 2)), .inl (s (i + 1)), .inr (.inr 103), .inr (.inl v)]) rfl ?_
  refine jw_W_ia rfl rfl (by omega) (by omega) (by omega) ?_
  show jw_W (js_S n) _ md_law 415 [some (.inr (.inr 0)), some (.inr (.inr 13)), some (.inr (.inr 103)), some (.inl i)] [.inl (σ1 0 (i + 3)), .inl (s (i + 2)), .inl (s (i + 1)), .inr (.inr 103), .inr (.inl v)] σ1 _
  rw [e1]
  refine jw_W_n 4 (i' := 419) (ls' := [some (.inr (.inr 0)), some (.inr (.inr 13)), some (.inr (.inr 103)), some (.inl i)]) (st' := [.inl (i + 4), .inr (.inr 0), .inl (s (i + 3)), .inl (s (i + 2)), .inl (s (i + 1)), .inr (.inr 103), .inr (.inl v)]) rfl ?_
  refine jw_W_ia rfl rfl (by omega) (by omega) (by omega) ?_
  show jw_W (js_S n) _ md_law 420 [some (.inr (.inr 0)), some (.inr (.inr 13)), some (.inr (.inr 103)), some (.inl i)] [.inl (σ1 0 (i + 4)), .inl (s (i + 3)), .inl (s (i + 2)), .inl (s (i + 1)), .inr (.inr 103), .inr (.inl v)] σ1 _
  rw [e1]
  refine jw_W_call (as := [.inr (.inr 103), .inl (s (i + 1)), .inl (s (i + 2)), .inl (s (i + 3)), .inl (s (i + 4))]) (rest := [.inr (.inl v)]) rfl rfl rfl rfl (Nat.le_of_ble_eq_true rfl) (.inr rfl) hT (by omega) ?_ rfl
  rintro r1 σ2 ⟨rfl, hI2⟩
  show jw_W (js_S n) _ md_law 421 [some (.inr (.inr 0)), some (.inr (.inr 13)), some (.inr (.inr 103)), some (.inl i)] [.inr (.inl v), .inr (.inl v)] σ2 _
  exact jv_W_el rfl rfl (next σ2 hI2)
set_option maxRecDepth 100000 in
theorem jv_o14 {n : Nat} {s : Int → Int} {σ : jw_H} {Q : Option jw_V → jw_H → Prop} (hI : jv_I n s σ) (hs : ∀ j, jw_rg (s j)) {i : Int} (i0 : 0 ≤ i) (i1 : i + 6 ≤ n) (hn : (n : Int) ≤ 3072) (next : ∀ σ', jv_I n s σ' → jw_W (js_S n) 32 md_law 1243 (jv_ls i) [] σ' Q) : jw_W (js_S n) 32 md_law 425 (jv_ls i) [] σ Q := by
  obtain ⟨o, C, hJ⟩ := hI
  have e0 : σ 0 = s := hJ.2.2.2.2.2.2
  refine jw_W_n 5 (i' := 430) (ls' := [some (.inr (.inr 0)), some (.inr (.inr 13)), some (.inr (.inr 103)), some (.inl i)]) (st' := [.inl (i + 1), .inr (.inr 0), .inr (.inr 13)]) rfl ?_
  refine jw_W_ia rfl rfl (by omega) (by omega) (by omega) ?_
  show jw_W (js_S n) _ md_law 431 [some (.inr (.inr 0)), some (.inr (.inr 13)), some (.inr (.inr 103)), some (.inl i)] [.inl (σ 0 (i + 1)), .inr (.inr 13)] σ _
  rw [e0]
  refine jw_W_call (as := [.inr (.inr 13), .inl (s (i + 1))]) (rest := []) rfl rfl rfl rfl (Nat.le_of_ble_eq_true rfl) (.inr rfl) (jv_behind hJ (hs _)) (by omega) ?_ rfl
  rintro r1 σ1 ⟨v, rfl, e1, hT⟩
  show jw_W (js_S n) _ md_law 432 [some (.inr (.inr 0)), some (.inr (.inr 13)), some (.inr (.inr 103)), some (.inl i)] [.inl v] σ1 _
  refine jw_W_n 5 (i' := 437) (ls' := [some (.inr (.inr 0)), some (.inr (.inr 13)), some (.inr (.inr 103)), some (.inl i)]) (st' := [.inl (i + 1), .inr (.inr 0), .inr (.inr 103), .inl v]) rfl ?_
  refine jw_W_ia rfl rfl (by omega) (by omega) (by omega) ?_
  show jw_W (js_S n) _ md_law 438 [some (.inr (.inr 0)), some (.inr (.inr 13)), some (.inr (.inr 103)), some (.inl i)] [.inl (σ1 0 (i + 1)), .inr (.inr 103), .inl v] σ1 _
  rw [e1]
  refine jw_W_call (as := [.inr (.inr 103), .inl (s (i + 1))]) (rest := [.inl v]) rfl rfl rfl rfl (Nat.le_of_ble_eq_true rfl) (.inr rfl) hT (by omega) ?_ rfl
  rintro r1 σ2 ⟨rfl, hI2⟩
  show jw_W (js_S n) _ md_law 439 [some (.inr (.inr 0)), some (.inr (.inr 13)), some (.inr (.inr 103)), some (.inl i)] [.inl v, .inl v] σ2 _
  exact jv_W_ei rfl (next σ2 hI2)
set_option maxRecDepth 100000 in
theorem jv_o15 {n : Nat} {s : Int → Int} {σ : jw_H} {Q : Option jw_V → jw_H → Prop} (hI : jv_I n s σ) (hs : ∀ j, jw_rg (s j)) {i : Int} (i0 : 0 ≤ i) (i1 : i + 6 ≤ n) (hn : (n : Int) ≤ 3072) (next : ∀ σ', jv_I n s σ' → jw_W (js_S n) 32 md_law 1243 (jv_ls i) [] σ' Q) : jw_W (js_S n) 32 md_law 442 (jv_ls i) [] σ Q := by
  obtain ⟨o, C, hJ⟩ := hI
  have e0 : σ 0 = s := hJ.2.2.2.2.2.2
  refine jw_W_n 5 (i' := 447) (ls' := [some (.inr (.inr 0)), some (.inr (.inr 13)), some (.inr (.inr 103)), some (.inl i)]) (st' := [.inl (i + 1), .inr (.inr 0), .inr (.inr 13)]) rfl ?_
  refine jw_W_ia rfl rfl (by omega) (by omega) (by omega) ?_
  show jw_W (js_S n) _ md_law 448 [some (.inr (.inr 0)), some (.inr (.inr 13)), some (.inr (.inr 103)), some (.inl i)] [.inl (σ 0 (i + 1)), .inr (.inr 13)] σ _
  rw [e0]
  refine jw_W_n 4 (i' := 452) (ls' := [some (.inr (.inr 0)), some (.inr (.inr 13)), some (.inr (.inr 103)), some (.inl i)]) (st' := [.inl (i + 2), .inr (.inr 0), .inl (s (i + 1)), .inr (.inr 13)]) rfl ?_
  refine jw_W_ia rfl rfl (by omega) (by omega) (by omega) ?_
  show jw_W (js_S n) _ md_law 453 [some (.inr (.inr 0)), some (.inr (.inr 13)), some (.inr (.inr 103)), some (.inl i)] [.inl (σ 0 (i + 2)), .inl (s (i + 1)), .inr (.inr 13)] σ _
  rw [e0]
  refine jw_W_n 4 (i' := 457) (ls' := [some (.inr (.inr 0)), some (.inr (.inr 13)), some (.inr (.inr 103)), some (.inl i)]) (st' := [.inl (i + 3), .inr (.inr 0), .inl (s (i + 2)), .inl (s (i + 1)), .inr (.inr 13)]) rfl ?_
  refine jw_W_ia rfl rfl (by omega) (by omega) (by omega) ?_
  show jw_W (js_S n) _ md_law 458 [some (.inr (.inr 0)), some (.inr (.inr 13)), some (.inr (.inr 103)), some (.inl i)] [.inl (σ 0 (i + 3)), .inl (s (i + 2)), .inl (s (i + 1)), .inr (.inr 13)] σ _
  rw [e0]
  refine jw_W_n 4 (i' := 462) (ls' := [some (.inr (.inr 0)), some (.inr (.inr 13)), some (.inr (.inr 103)), some (.inl i)]) (st' := [.inl (i + 4), .inr (.inr 0), .inl (s (i + 3)), .inl (s (i + 2)), .inl (s (i + 1)), .inr (.inr 13)]) rfl ?_
  refine jw_W_ia rfl rfl (by omega) (by omega) (by omega) ?_
  show jw_W (js_S n) _ md_law 463 [some (.inr (.inr 0)), some (.inr (.inr 13)), some (.inr (.inr 103)), some (.inl i)] [.inl (σ 0 (i + 4)), .inl (s (i + 3)), .inl (s (i + 2)), .inl (s (i + 1)), .inr (.inr 13)] σ _
  rw [e0]
  refine jw_W_call (as := [.inr (.inr 13), .inl (s (i + 1)), .inl (s (i + 2)), .inl (s (i + 3)), .inl (s (i + 4))]) (rest := []) rfl rfl rfl rfl (Nat.le_of_ble_eq_true rfl) (.inr rfl) (jv_heldAt hJ (hs _) (hs _) (hs _) (hs _)) (by omega) ?_ rfl
  rintro r1 σ1 ⟨v, rfl, e1, hT⟩
  show jw_W (js_S n) _ md_law 464 [some (.inr (.inr 0)), some (.inr (.inr 13)), some (.inr (.inr 103)), some (.inl i)] [.inr (.inl v)] σ1 _
  refine jw_W_n 5 (i' := 469) (ls' := [some (.inr (.inr 0)), some (.inr (.inr 13)), some (.inr (.inr 103)), some (.inl i)]) (st' := [.inl (i + 1), .inr (.inr 0), .inr (.inr 103), .inr (.inl v)]) rfl ?_
  refine jw_W_ia rfl rfl (by omega) (by omega) (by omega) ?_
  show jw_W (js_S n) _ md_law 470 [some (.inr (.inr 0)), some (.inr (.inr 13)), some (.inr (.inr 103)), some (.inl i)] [.inl (σ1 0 (i + 1)), .inr (.inr 103), .inr (.inl v)] σ1 _
  rw [e1]
  refine jw_W_n 4 (i' := 474) (ls' := [some (.inr (.inr 0)), some (.inr (.inr 13)), some (.inr (.inr 103)), some (.inl i)]) (st' := [.inl (i + 2), .inr (.inr 0), .inl (s (i + 1)), .inr (.inr 103), .inr (.inl v)]) rfl ?_
  refine jw_W_ia rfl rfl (by omega) (by omega) (by omega) ?_
  show jw_W (js_S n) _ md_law 475 [some (.inr (.inr 0)), some (.inr (.inr 13)), some (.inr (.inr 103)), some (.inl i)] [.inl (σ1 0 (i + 2)), .inl (s (i + 1)), .inr (.inr 103), .inr (.inl v)] σ1 _
  rw [e1]
  refine jw_W_n 4 (i' := 479) (ls' := [some (.inr (.inr 0)), some (.inr (.inr 13)), some (.inr (.inr 103)), some (.inl i)]) (st' := [.inl (i + 3), .inr (.inr 0), .inl (s (i + 2)), .inl (s (i + 1)), .inr (.inr 103), .inr (.inl v)]) rfl ?_
  refine jw_W_ia rfl rfl (by omega) (by omega) (by omega) ?_
  show jw_W (js_S n) _ md_law 480 [some (.inr (.inr 0)), some (.inr (.inr 13)), some (.inr (.inr 103)), some (.inl i)] [.inl (σ1 0 (i + 3)), .inl (s (i + 2)), .inl (s (i + 1)), .inr (.inr 103), .inr (.inl v)] σ1 _
  rw [e1]
  refine jw_W_n 4 (i' := 484) (ls' := [some (.inr (.inr 0)), some (.inr (.inr 13)), some (.inr (.inr 103)), some (.inl i)]) (st' := [.inl (i + 4), .inr (.inr 0), .inl (s (i + 3)), .inl (s (i + 2)), .inl (s (i + 1)), .inr (.inr 103), .inr (.inl v)]) rfl ?_
  refine jw_W_ia rfl rfl (by omega) (by omega) (by omega) ?_
  show jw_W (js_S n) _ md_law 485 [some (.inr (.inr 0)), some (.inr (.inr 13)), some (.inr (.inr 103)), some (.inl i)] [.inl (σ1 0 (i + 4)), .inl (s (i + 3)), .inl (s (i + 2)), .inl (s (i + 1)), .inr (.inr 103), .inr (.inl v)] σ1 _
  rw [e1]
  refine jw_W_call (as := [.inr (.inr 103), .inl (s (i + 1)), .inl (s (i + 2)), .inl (s (i + 3)), .inl (s (i + 4))]) (rest := [.inr (.inl v)]) rfl rfl rfl rfl (Nat.le_of_ble_eq_true rfl) (.inr rfl) hT (by omega) ?_ rfl
  rintro r1 σ2 ⟨rfl, hI2⟩
  show jw_W (js_S n) _ md_law 486 [some (.inr (.inr 0)), some (.inr (.inr 13)), some (.inr (.inr 103)), some (.inl i)] [.inr (.inl v), .inr (.inl v)] σ2 _
  exact jv_W_el rfl rfl (next σ2 hI2)
set_option maxRecDepth 100000 in
theorem jv_o16 {n : Nat} {s : Int → Int} {σ : jw_H} {Q : Option jw_V → jw_H → Prop} (hI : jv_I n s σ) (hs : ∀ j, jw_rg (s j)) {i : Int} (i0 : 0 ≤ i) (i1 : i + 6 ≤ n) (hn : (n : Int) ≤ 3072) (next : ∀ σ', jv_I n s σ' → jw_W (js_S n) 32 md_law 1243 (jv_ls i) [] σ' Q) : jw_W (js_S n) 32 md_law 490 (jv_ls i) [] σ Q := by
  obtain ⟨o, C, hJ⟩ := hI
  have e0 : σ 0 = s := hJ.2.2.2.2.2.2
  refine jw_W_n 5 (i' := 495) (ls' := [some (.inr (.inr 0)), some (.inr (.inr 13)), some (.inr (.inr 103)), some (.inl i)]) (st' := [.inl (i + 1), .inr (.inr 0), .inr (.inr 13)]) rfl ?_
  refine jw_W_ia rfl rfl (by omega) (by omega) (by omega) ?_
  show jw_W (js_S n) _ md_law 496 [some (.inr (.inr 0)), some (.inr (.inr 13)), some (.inr (.inr 103)), some (.inl i)] [.inl (σ 0 (i + 1)), .inr (.inr 13)] σ _
  rw [e0]
  refine jw_W_n 4 (i' := 500) (ls' := [some (.inr (.inr 0)), some (.inr (.inr 13)), some (.inr (.inr 103)), some (.inl i)]) (st' := [.inl (i + 2), .inr (.inr 0), .inl (s (i + 1)), .inr (.inr 13)]) rfl ?_
  refine jw_W_ia rfl rfl (by omega) (by omega) (by omega) ?_
  show jw_W (js_S n) _ md_law 501 [some (.inr (.inr 0)), some (.inr (.inr 13)), some (.inr (.inr 103)), some (.inl i)] [.inl (σ 0 (i + 2)), .inl (s (i + 1)), .inr (.inr 13)] σ _
  rw [e0]
  refine jw_W_n 4 (i' := 505) (ls' := [some (.inr (.inr 0)), some (.inr (.inr 13)), some (.inr (.inr 103)), some (.inl i)]) (st' := [.inl (i + 3), .inr (.inr 0), .inl (s (i + 2)), .inl (s (i + 1)), .inr (.inr 13)]) rfl ?_
  refine jw_W_ia rfl rfl (by omega) (by omega) (by omega) ?_
  show jw_W (js_S n) _ md_law 506 [some (.inr (.inr 0)), some (.inr (.inr 13)), some (.inr (.inr 103)), some (.inl i)] [.inl (σ 0 (i + 3)), .inl (s (i + 2)), .inl (s (i + 1)), .inr (.inr 13)] σ _
  rw [e0]
  refine jw_W_call (as := [.inr (.inr 13), .inl (s (i + 1)), .inl (s (i + 2)), .inl (s (i + 3))]) (rest := []) rfl rfl rfl rfl (Nat.le_of_ble_eq_true rfl) (.inr rfl) (jv_plan hJ (hs _) (hs _) (hs _)) (by omega) ?_ rfl
  rintro r1 σ1 ⟨v, rfl, e1, hT⟩
  show jw_W (js_S n) _ md_law 507 [some (.inr (.inr 0)), some (.inr (.inr 13)), some (.inr (.inr 103)), some (.inl i)] [.inl v] σ1 _
  refine jw_W_n 5 (i' := 512) (ls' := [some (.inr (.inr 0)), some (.inr (.inr 13)), some (.inr (.inr 103)), some (.inl i)]) (st' := [.inl (i + 1), .inr (.inr 0), .inr (.inr 103), .inl v]) rfl ?_
  refine jw_W_ia rfl rfl (by omega) (by omega) (by omega) ?_
  show jw_W (js_S n) _ md_law 513 [some (.inr (.inr 0)), some (.inr (.inr 13)), some (.inr (.inr 103)), some (.inl i)] [.inl (σ1 0 (i + 1)), .inr (.inr 103), .inl v] σ1 _
  rw [e1]
  refine jw_W_n 4 (i' := 517) (ls' := [some (.inr (.inr 0)), some (.inr (.inr 13)), some (.inr (.inr 103)), some (.inl i)]) (st' := [.inl (i + 2), .inr (.inr 0), .inl (s (i + 1)), .inr (.inr 103), .inl v]) rfl ?_
  refine jw_W_ia rfl rfl (by omega) (by omega) (by omega) ?_
  show jw_W (js_S n) _ md_law 518 [some (.inr (.inr 0)), some (.inr (.inr 13)), some (.inr (.inr 103)), some (.inl i)] [.inl (σ1 0 (i + 2)), .inl (s (i + 1)), .inr (.inr 103), .inl v] σ1 _
  rw [e1]
  refine jw_W_n 4 (i' := 522) (ls' := [some (.inr (.inr 0)), some (.inr (.inr 13)), some (.inr (.inr 103)), some (.inl i)]) (st' := [.inl (i + 3), .inr (.inr 0), .inl (s (i + 2)), .inl (s (i + 1)), .inr (.inr 103), .inl v]) rfl ?_
  refine jw_W_ia rfl rfl (by omega) (by omega) (by omega) ?_
  show jw_W (js_S n) _ md_law 523 [some (.inr (.inr 0)), some (.inr (.inr 13)), some (.inr (.inr 103)), some (.inl i)] [.inl (σ1 0 (i + 3)), .inl (s (i + 2)), .inl (s (i + 1)), .inr (.inr 103), .inl v] σ1 _
  rw [e1]
  refine jw_W_call (as := [.inr (.inr 103), .inl (s (i + 1)), .inl (s (i + 2)), .inl (s (i + 3))]) (rest := [.inl v]) rfl rfl rfl rfl (Nat.le_of_ble_eq_true rfl) (.inr rfl) hT (by omega) ?_ rfl
  rintro r1 σ2 ⟨rfl, hI2⟩
  show jw_W (js_S n) _ md_law 524 [some (.inr (.inr 0)), some (.inr (.inr 13)), some (.inr (.inr 103)), some (.inl i)] [.inl v, .inl v] σ2 _
  exact jv_W_ei rfl (next σ2 hI2)
set_option maxRecDepth 100000 in
theorem jv_o17 {n : Nat} {s : Int → Int} {σ : jw_H} {Q : Option jw_V → jw_H → Prop} (hI : jv_I n s σ) (hs : ∀ j, jw_rg (s j)) {i : Int} (i0 : 0 ≤ i) (i1 : i + 6 ≤ n) (hn : (n : Int) ≤ 3072) (next : ∀ σ', jv_I n s σ' → jw_W (js_S n) 32 md_law 1243 (jv_ls i) [] σ' Q) : jw_W (js_S n) 32 md_law 527 (jv_ls i) [] σ Q := by
  obtain ⟨o, C, hJ⟩ := hI
  have e0 : σ 0 = s := hJ.2.2.2.2.2.2
  refine jw_W_n 5 (i' := 532) (ls' := [some (.inr (.inr 0)), some (.inr (.inr 13)), some (.inr (.inr 103)), some (.inl i)]) (st' := [.inl (i + 1), .inr (.inr 0), .inr (.inr 13)]) rfl ?_
  refine jw_W_ia rfl rfl (by omega) (by omega) (by omega) ?_
  show jw_W (js_S n) _ md_law 533 [some (.inr (.inr 0)), some (.inr (.inr 13)), some (.inr (.inr 103)), some (.inl i)] [.inl (σ 0 (i + 1)), .inr (.inr 13)] σ _
  rw [e0]
  refine jw_W_n 4 (i' := 537) (ls' := [some (.inr (.inr 0)), some (.inr (.inr 13)), some (.inr (.inr 103)), some (.inl i)]) (st' := [.inl (i + 2), .inr (.inr 0), .inl (s (i + 1)), .inr (.inr 13)]) rfl ?_
  refine jw_W_ia rfl rfl (by omega) (by omega) (by omega) ?_
  show jw_W (js_S n) _ md_law 538 [some (.inr (.inr 0)), some (.inr (.inr 13)), some (.inr (.inr 103)), some (.inl i)] [.inl (σ 0 (i + 2)), .inl (s (i + 1)), .inr (.inr 13)] σ _
  rw [e0]
  refine jw_W_n 4 (i' := 542) (ls' := [some (.inr (.inr 0)), some (.inr (.inr 13)), some (.inr (.inr 103)), some (.inl i)]) (st' := [.inl (i + 3), .inr (.inr 0), .inl (s (i + 2)), .inl (s (i + 1)), .inr (.inr 13)]) rfl ?_
  refine jw_W_ia rfl rfl (by omega) (by omega) (by omega) ?_
  show jw_W (js_S n) _ md_law 543 [some (.inr (.inr 0)), some (.inr (.inr 13)), some (.inr (.inr 103)), some (.inl i)] [.inl (σ 0 (i + 3)), .inl (s (i + 2)), .inl (s (i + 1)), .inr (.inr 13)] σ _
  rw [e0]
  refine jw_W_n 4 (i' := 547) (ls' := [some (.inr (.inr 0)), some (.inr (.inr 13)), some (.inr (.inr 103)), some (.inl i)]) (st' := [.inl (i + 4), .inr (.inr 0), .inl (s (i + 3)), .inl (s (i + 2)), .inl (s (i + 1)), .inr (.inr 13)]) rfl ?_
  refine jw_W_ia rfl rfl (by omega) (by omega) (by omega) ?_
  show jw_W (js_S n) _ md_law 548 [some (.inr (.inr 0)), some (.inr (.inr 13)), some (.inr (.inr 103)), some (.inl i)] [.inl (σ 0 (i + 4)), .inl (s (i + 3)), .inl (s (i + 2)), .inl (s (i + 1)), .inr (.inr 13)] σ _
  rw [e0]
  refine jw_W_call (as := [.inr (.inr 13), .inl (s (i + 1)), .inl (s (i + 2)), .inl (s (i + 3)), .inl (s (i + 4))]) (rest := []) rfl rfl rfl rfl (Nat.le_of_ble_eq_true rfl) (.inr rfl) (jv_gain hJ (hs _) (hs _) (hs _) (hs _)) (by omega) ?_ rfl
  rintro r1 σ1 ⟨v, rfl, e1, hT⟩
  show jw_W (js_S n) _ md_law 549 [some (.inr (.inr 0)), some (.inr (.inr 13)), some (.inr (.inr 103)), some (.inl i)] [.inr (.inl v)] σ1 _
  refine jw_W_n 5 (i' := 554) (ls' := [some (.inr (.inr 0)), some (.inr (.inr 13)), some (.inr (.inr 103)), some (.inl i)]) (st' := [.inl (i + 1), .inr (.inr 0), .inr (.inr 103), .inr (.inl v)]) rfl ?_
  refine jw_W_ia rfl rfl (by omega) (by omega) (by omega) ?_
  show jw_W (js_S n) _ md_law 555 [some (.inr (.inr 0)), some (.inr (.inr 13)), some (.inr (.inr 103)), some (.inl i)] [.inl (σ1 0 (i + 1)), .inr (.inr 103), .inr (.inl v)] σ1 _
  rw [e1]
  refine jw_W_n 4 (i' := 559) (ls' := [some (.inr (.inr 0)), some (.inr (.inr 13)), some (.inr (.inr 103)), some (.inl i)]) (st' := [.inl (i + 2), .inr (.inr 0), .inl (s (i + 1)), .inr (.inr 103), .inr (.inl v)]) rfl ?_
  refine jw_W_ia rfl rfl (by omega) (by omega) (by omega) ?_
  show jw_W (js_S n) _ md_law 560 [some (.inr (.inr 0)), some (.inr (.inr 13)), some (.inr (.inr 103)), some (.inl i)] [.inl (σ1 0 (i + 2)), .inl (s (i + 1)), .inr (.inr 103), .inr (.inl v)] σ1 _
  rw [e1]
  refine jw_W_n 4 (i' := 564) (ls' := [some (.inr (.inr 0)), some (.inr (.inr 13)), some (.inr (.inr 103)), some (.inl i)]) (st' := [.inl (i + 3), .inr (.inr 0), .inl (s (i + 2)), .inl (s (i + 1)), .inr (.inr 103), .inr (.inl v)]) rfl ?_
  refine jw_W_ia rfl rfl (by omega) (by omega) (by omega) ?_
  show jw_W (js_S n) _ md_law 565 [some (.inr (.inr 0)), some (.inr (.inr 13)), some (.inr (.inr 103)), some (.inl i)] [.inl (σ1 0 (i + 3)), .inl (s (i + 2)), .inl (s (i + 1)), .inr (.inr 103), .inr (.inl v)] σ1 _
  rw [e1]
  refine jw_W_n 4 (i' := 569) (ls' := [some (.inr (.inr 0)), some (.inr (.inr 13)), some (.inr (.inr 103)), some (.inl i)]) (st' := [.inl (i + 4), .inr (.inr 0), .inl (s (i + 3)), .inl (s (i + 2)), .inl (s (i + 1)), .inr (.inr 103), .inr (.inl v)]) rfl ?_
  refine jw_W_ia rfl rfl (by omega) (by omega) (by omega) ?_
  show jw_W (js_S n) _ md_law 570 [some (.inr (.inr 0)), some (.inr (.inr 13)), some (.inr (.inr 103)), some (.inl i)] [.inl (σ1 0 (i + 4)), .inl (s (i + 3)), .inl (s (i + 2)), .inl (s (i + 1)), .inr (.inr 103), .inr (.inl v)] σ1 _
  rw [e1]
  refine jw_W_call (as := [.inr (.inr 103), .inl (s (i + 1)), .inl (s (i + 2)), .inl (s (i + 3)), .inl (s (i + 4))]) (rest := [.inr (.inl v)]) rfl rfl rfl rfl (Nat.le_of_ble_eq_true rfl) (.inr rfl) hT (by omega) ?_ rfl
  rintro r1 σ2 ⟨rfl, hI2⟩
  show jw_W (js_S n) _ md_law 571 [some (.inr (.inr 0)), some (.inr (.inr 13)), some (.inr (.inr 103)), some (.inl i)] [.inr (.inl v), .inr (.inl v)] σ2 _
  exact jv_W_el rfl rfl (next σ2 hI2)
set_option maxRecDepth 100000 in
theorem jv_o18 {n : Nat} {s : Int → Int} {σ : jw_H} {Q : Option jw_V → jw_H → Prop} (hI : jv_I n s σ) (hs : ∀ j, jw_rg (s j)) {i : Int} (i0 : 0 ≤ i) (i1 : i + 6 ≤ n) (hn : (n : Int) ≤ 3072) (next : ∀ σ', jv_I n s σ' → jw_W (js_S n) 32 md_law 1243 (jv_ls i) [] σ' Q) : jw_W (js_S n) 32 md_law 575 (jv_ls i) [] σ Q := by
  obtain ⟨o, C, hJ⟩ := hI
  have e0 : σ 0 = s := hJ.2.2.2.2.2.2
  refine jw_W_n 5 (i' := 580) (ls' := [some (.inr (.inr 0)), some (.inr (.inr 13)), some (.inr (.inr 103)), some (.inl i)]) (st' := [.inl (i + 1), .inr (.inr 0), .inr (.inr 13)]) rfl ?_
  refine jw_W_ia rfl rfl (by omega) (by omega) (by omega) ?_
  show jw_W (js_S n) _ md_law 581 [some (.inr (.inr 0)), some (.inr (.inr 13)), some (.inr (.inr 103)), some (.inl i)] [.inl (σ 0 (i + 1)), .inr (.inr 13)] σ _
  rw [e0]
  refine jw_W_n 4 (i' := 585) (ls' := [some (.inr (.inr 0)), some (.inr (.inr 13)), some (.inr (.inr 103)), some (.inl i)]) (st' := [.inl (i + 2), .inr (.inr 0), .inl (s (i + 1)), .inr (.inr 13)]) rfl ?_
  refine jw_W_ia rfl rfl (by omega) (by omega) (by omega) ?_
  show jw_W (js_S n) _ md_law 586 [some (.inr (.inr 0)), some (.inr (.inr 13)), some (.inr (.inr 103)), some (.inl i)] [.inl (σ 0 (i + 2)), .inl (s (i + 1)), .inr (.inr 13)] σ _
  rw [e0]
  refine jw_W_n 4 (i' := 590) (ls' := [some (.inr (.inr 0)), some (.inr (.inr 13)), some (.inr (.inr 103)), some (.inl i)]) (st' := [.inl (i + 3), .inr (.inr 0), .inl (s (i + 2)), .inl (s (i + 1)), .inr (.inr 13)]) rfl ?_
  refine jw_W_ia rfl rfl (by omega) (by omega) (by omega) ?_
  show jw_W (js_S n) _ md_law 591 [some (.inr (.inr 0)), some (.inr (.inr 13)), some (.inr (.inr 103)), some (.inl i)] [.inl (σ 0 (i + 3)), .inl (s (i + 2)), .inl (s (i + 1)), .inr (.inr 13)] σ _
  rw [e0]
  refine jw_W_n 4 (i' := 595) (ls' := [some (.inr (.inr 0)), some (.inr (.inr 13)), some (.inr (.inr 103)), some (.inl i)]) (st' := [.inl (i + 4), .inr (.inr 0), .inl (s (i + 3)), .inl (s (i + 2)), .inl (s (i + 1)), .inr (.inr 13)]) rfl ?_
  refine jw_W_ia rfl rfl (by omega) (by omega) (by omega) ?_
  show jw_W (js_S n) _ md_law 596 [some (.inr (.inr 0)), some (.inr (.inr 13)), some (.inr (.inr 103)), some (.inl i)] [.inl (σ 0 (i + 4)), .inl (s (i + 3)), .inl (s (i + 2)), .inl (s (i + 1)), .inr (.inr 13)] σ _
  rw [e0]
  refine jw_W_call (as := [.inr (.inr 13), .inl (s (i + 1)), .inl (s (i + 2)), .inl (s (i + 3)), .inl (s (i + 4))]) (rest := []) rfl rfl rfl rfl (Nat.le_of_ble_eq_true rfl) (.inr rfl) (jv_better hJ (hs _) (hs _) (hs _) (hs _)) (by omega) ?_ rfl
  rintro r1 σ1 ⟨v, rfl, e1, hT⟩
  show jw_W (js_S n) _ md_law 597 [some (.inr (.inr 0)), some (.inr (.inr 13)), some (.inr (.inr 103)), some (.inl i)] [.inr (.inl v)] σ1 _
  refine jw_W_n 5 (i' := 602) (ls' := [some (.inr (.inr 0)), some (.inr (.inr 13)), some (.inr (.inr 103)), some (.inl i)]) (st' := [.inl (i + 1), .inr (.inr 0), .inr (.inr 103), .inr (.inl v)]) rfl ?_
  refine jw_W_ia rfl rfl (by omega) (by omega) (by omega) ?_
  show jw_W (js_S n) _ md_law 603 [some (.inr (.inr 0)), some (.inr (.inr 13)), some (.inr (.inr 103)), some (.inl i)] [.inl (σ1 0 (i + 1)), .inr (.inr 103), .inr (.inl v)] σ1 _
  rw [e1]
  refine jw_W_n 4 (i' := 607) (ls' := [some (.inr (.inr 0)), some (.inr (.inr 13)), some (.inr (.inr 103)), some (.inl i)]) (st' := [.inl (i + 2), .inr (.inr 0), .inl (s (i + 1)), .inr (.inr 103), .inr (.inl v)]) rfl ?_
  refine jw_W_ia rfl rfl (by omega) (by omega) (by omega) ?_
  show jw_W (js_S n) _ md_law 608 [some (.inr (.inr 0)), some (.inr (.inr 13)), some (.inr (.inr 103)), some (.inl i)] [.inl (σ1 0 (i + 2)), .inl (s (i + 1)), .inr (.inr 103), .inr (.inl v)] σ1 _
  rw [e1]
  refine jw_W_n 4 (i' := 612) (ls' := [some (.inr (.inr 0)), some (.inr (.inr 13)), some (.inr (.inr 103)), some (.inl i)]) (st' := [.inl (i + 3), .inr (.inr 0), .inl (s (i + 2)), .inl (s (i + 1)), .inr (.inr 103), .inr (.inl v)]) rfl ?_
  refine jw_W_ia rfl rfl (by omega) (by omega) (by omega) ?_
  show jw_W (js_S n) _ md_law 613 [some (.inr (.inr 0)), some (.inr (.inr 13)), some (.inr (.inr 103)), some (.inl i)] [.inl (σ1 0 (i + 3)), .inl (s (i + 2)), .inl (s (i + 1)), .inr (.inr 103), .inr (.inl v)] σ1 _
  rw [e1]
  refine jw_W_n 4 (i' := 617) (ls' := [some (.inr (.inr 0)), some (.inr (.inr 13)), some (.inr (.inr 103)), some (.inl i)]) (st' := [.inl (i + 4), .inr (.inr 0), .inl (s (i + 3)), .inl (s (i + 2)), .inl (s (i + 1)), .inr (.inr 103), .inr (.inl v)]) rfl ?_
  refine jw_W_ia rfl rfl (by omega) (by omega) (by omega) ?_
  show jw_W (js_S n) _ md_law 618 [some (.inr (.inr 0)), some (.inr (.inr 13)), some (.inr (.inr 103)), some (.inl i)] [.inl (σ1 0 (i + 4)), .inl (s (i + 3)), .inl (s (i + 2)), .inl (s (i + 1)), .inr (.inr 103), .inr (.inl v)] σ1 _
  rw [e1]
  refine jw_W_call (as := [.inr (.inr 103), .inl (s (i + 1)), .inl (s (i + 2)), .inl (s (i + 3)), .inl (s (i + 4))]) (rest := [.inr (.inl v)]) rfl rfl rfl rfl (Nat.le_of_ble_eq_true rfl) (.inr rfl) hT (by omega) ?_ rfl
  rintro r1 σ2 ⟨rfl, hI2⟩
  show jw_W (js_S n) _ md_law 619 [some (.inr (.inr 0)), some (.inr (.inr 13)), some (.inr (.inr 103)), some (.inl i)] [.inr (.inl v), .inr (.inl v)] σ2 _
  exact jv_W_el rfl rfl (next σ2 hI2)
set_option maxRecDepth 100000 in
theorem jv_o19 {n : Nat} {s : Int → Int} {σ : jw_H} {Q : Option jw_V → jw_H → Prop} (hI : jv_I n s σ) (hs : ∀ j, jw_rg (s j)) {i : Int} (i0 : 0 ≤ i) (i1 : i + 6 ≤ n) (hn : (n : Int) ≤ 3072) (next : ∀ σ', jv_I n s σ' → jw_W (js_S n) 32 md_law 1243 (jv_ls i) [] σ' Q) : jw_W (js_S n) 32 md_law 623 (jv_ls i) [] σ Q := by
  obtain ⟨o, C, hJ⟩ := hI
  have e0 : σ 0 = s := hJ.2.2.2.2.2.2
  refine jw_W_n 5 (i' := 628) (ls' := [some (.inr (.inr 0)), some (.inr (.inr 13)), some (.inr (.inr 103)), some (.inl i)]) (st' := [.inl (i + 1), .inr (.inr 0), .inr (.inr 13)]) rfl ?_
  refine jw_W_ia rfl rfl (by omega) (by omega) (by omega) ?_
  show jw_W (js_S n) _ md_law 629 [some (.inr (.inr 0)), some (.inr (.inr 13)), some (.inr (.inr 103)), some (.inl i)] [.inl (σ 0 (i + 1)), .inr (.inr 13)] σ _
  rw [e0]
  refine jw_W_n 4 (i' := 633) (ls' := [some (.inr (.inr 0)), some (.inr (.inr 13)), some (.inr (.inr 103)), some (.inl i)]) (st' := [.inl (i + 2), .inr (.inr 0), .inl (s (i + 1)), .inr (.inr 13)]) rfl ?_
  refine jw_W_ia rfl rfl (by omega) (by omega) (by omega) ?_
  show jw_W (js_S n) _ md_law 634 [some (.inr (.inr 0)), some (.inr (.inr 13)), some (.inr (.inr 103)), some (.inl i)] [.inl (σ 0 (i + 2)), .inl (s (i + 1)), .inr (.inr 13)] σ _
  rw [e0]
  refine jw_W_call (as := [.inr (.inr 13), .inl (s (i + 1)), .inl (s (i + 2))]) (rest := []) rfl rfl rfl rfl (Nat.le_of_ble_eq_true rfl) (.inr rfl) (jv_face hJ (hs _) (hs _)) (by omega) ?_ rfl
  rintro r1 σ1 ⟨v, rfl, e1, hT⟩
  show jw_W (js_S n) _ md_law 635 [some (.inr (.inr 0)), some (.inr (.inr 13)), some (.inr (.inr 103)), some (.inl i)] [.inl v] σ1 _
  refine jw_W_n 5 (i' := 640) (ls' := [some (.inr (.inr 0)), some (.inr (.inr 13)), some (.inr (.inr 103)), some (.inl i)]) (st' := [.inl (i + 1), .inr (.inr 0), .inr (.inr 103), .inl v]) rfl ?_
  refine jw_W_ia rfl rfl (by omega) (by omega) (by omega) ?_
  show jw_W (js_S n) _ md_law 641 [some (.inr (.inr 0)), some (.inr (.inr 13)), some (.inr (.inr 103)), some (.inl i)] [.inl (σ1 0 (i + 1)), .inr (.inr 103), .inl v] σ1 _
  rw [e1]
  refine jw_W_n 4 (i' := 645) (ls' := [some (.inr (.inr 0)), some (.inr (.inr 13)), some (.inr (.inr 103)), some (.inl i)]) (st' := [.inl (i + 2), .inr (.inr 0), .inl (s (i + 1)), .inr (.inr 103), .inl v]) rfl ?_
  refine jw_W_ia rfl rfl (by omega) (by omega) (by omega) ?_
  show jw_W (js_S n) _ md_law 646 [some (.inr (.inr 0)), some (.inr (.inr 13)), some (.inr (.inr 103)), some (.inl i)] [.inl (σ1 0 (i + 2)), .inl (s (i + 1)), .inr (.inr 103), .inl v] σ1 _
  rw [e1]
  refine jw_W_call (as := [.inr (.inr 103), .inl (s (i + 1)), .inl (s (i + 2))]) (rest := [.inl v]) rfl rfl rfl rfl (Nat.le_of_ble_eq_true rfl) (.inr rfl) hT (by omega) ?_ rfl
  rintro r1 σ2 ⟨rfl, hI2⟩
  show jw_W (js_S n) _ md_law 647 [some (.inr (.inr 0)), some (.inr (.inr 13)), some (.inr (.inr 103)), some (.inl i)] [.inl v, .inl v] σ2 _
  exact jv_W_ei rfl (next σ2 hI2)
set_option maxRecDepth 100000 in
theorem jv_o20 {n : Nat} {s : Int → Int} {σ : jw_H} {Q : Option jw_V → jw_H → Prop} (hI : jv_I n s σ) (hs : ∀ j, jw_rg (s j)) {i : Int} (i0 : 0 ≤ i) (i1 : i + 6 ≤ n) (hn : (n : Int) ≤ 3072) (next : ∀ σ', jv_I n s σ' → jw_W (js_S n) 32 md_law 1243 (jv_ls i) [] σ' Q) : jw_W (js_S n) 32 md_law 650 (jv_ls i) [] σ Q := by
  obtain ⟨o, C, hJ⟩ := hI
  have e0 : σ 0 = s := hJ.2.2.2.2.2.2
  refine jw_W_n 5 (i' := 655) (ls' := [some (.inr (.inr 0)), some (.inr (.inr 13)), some (.inr (.inr 103)), some (.inl i)]) (st' := [.inl (i + 1), .inr (.inr 0), .inr (.inr 13)]) rfl ?_
  refine jw_W_ia rfl rfl (by omega) (by omega) (by omega) ?_
  show jw_W (js_S n) _ md_law 656 [some (.inr (.inr 0)), some (.inr (.inr 13)), some (.inr (.inr 103)), some (.inl i)] [.inl (σ 0 (i + 1)), .inr (.inr 13)] σ _
  rw [e0]
  refine jw_W_call (as := [.inr (.inr 13), .inl (s (i + 1))]) (rest := []) rfl rfl rfl rfl (Nat.le_of_ble_eq_true rfl) (.inr rfl) (jv_needed hJ (hs _)) (by omega) ?_ rfl
  rintro r1 σ1 ⟨v, rfl, e1, hT⟩
  show jw_W (js_S n) _ md_law 657 [some (.inr (.inr 0)), some (.inr (.inr 13)), some (.inr (.inr 103)), some (.inl i)] [.inl v] σ1 _
  refine jw_W_n 5 (i' := 662) (ls' := [some (.inr (.inr 0)), some (.inr (.inr 13)), some (.inr (.inr 103)), some (.inl i)]) (st' := [.inl (i + 1), .inr (.inr 0), .inr (.inr 103), .inl v]) rfl ?_
  refine jw_W_ia rfl rfl (by omega) (by omega) (by omega) ?_
  show jw_W (js_S n) _ md_law 663 [some (.inr (.inr 0)), some (.inr (.inr 13)), some (.inr (.inr 103)), some (.inl i)] [.inl (σ1 0 (i + 1)), .inr (.inr 103), .inl v] σ1 _
  rw [e1]
  refine jw_W_call (as := [.inr (.inr 103), .inl (s (i + 1))]) (rest := [.inl v]) rfl rfl rfl rfl (Nat.le_of_ble_eq_true rfl) (.inr rfl) hT (by omega) ?_ rfl
  rintro r1 σ2 ⟨rfl, hI2⟩
  show jw_W (js_S n) _ md_law 664 [some (.inr (.inr 0)), some (.inr (.inr 13)), some (.inr (.inr 103)), some (.inl i)] [.inl v, .inl v] σ2 _
  exact jv_W_ei rfl (next σ2 hI2)
set_option maxRecDepth 100000 in
theorem jv_o21 {n : Nat} {s : Int → Int} {σ : jw_H} {Q : Option jw_V → jw_H → Prop} (hI : jv_I n s σ) (hs : ∀ j, jw_rg (s j)) {i : Int} (i0 : 0 ≤ i) (i1 : i + 6 ≤ n) (hn : (n : Int) ≤ 3072) (next : ∀ σ', jv_I n s σ' → jw_W (js_S n) 32 md_law 1243 (jv_ls i) [] σ' Q) : jw_W (js_S n) 32 md_law 667 (jv_ls i) [] σ Q := by
  obtain ⟨o, C, hJ⟩ := hI
  have e0 : σ 0 = s := hJ.2.2.2.2.2.2
  refine jw_W_n 5 (i' := 672) (ls' := [some (.inr (.inr 0)), some (.inr (.inr 13)), some (.inr (.inr 103)), some (.inl i)]) (st' := [.inl (i + 1), .inr (.inr 0), .inr (.inr 13)]) rfl ?_
  refine jw_W_ia rfl rfl (by omega) (by omega) (by omega) ?_
  show jw_W (js_S n) _ md_law 673 [some (.inr (.inr 0)), some (.inr (.inr 13)), some (.inr (.inr 103)), some (.inl i)] [.inl (σ 0 (i + 1)), .inr (.inr 13)] σ _
  rw [e0]
  refine jw_W_call (as := [.inr (.inr 13), .inl (s (i + 1))]) (rest := []) rfl rfl rfl rfl (Nat.le_of_ble_eq_true rfl) (.inr rfl) (jv_turn hJ (hs _)) (by omega) ?_ rfl
  rintro r1 σ1 ⟨v, rfl, e1, hT⟩
  show jw_W (js_S n) _ md_law 674 [some (.inr (.inr 0)), some (.inr (.inr 13)), some (.inr (.inr 103)), some (.inl i)] [.inr (.inl v)] σ1 _
  refine jw_W_n 5 (i' := 679) (ls' := [some (.inr (.inr 0)), some (.inr (.inr 13)), some (.inr (.inr 103)), some (.inl i)]) (st' := [.inl (i + 1), .inr (.inr 0), .inr (.inr 103), .inr (.inl v)]) rfl ?_
  refine jw_W_ia rfl rfl (by omega) (by omega) (by omega) ?_
  show jw_W (js_S n) _ md_law 680 [some (.inr (.inr 0)), some (.inr (.inr 13)), some (.inr (.inr 103)), some (.inl i)] [.inl (σ1 0 (i + 1)), .inr (.inr 103), .inr (.inl v)] σ1 _
  rw [e1]
  refine jw_W_call (as := [.inr (.inr 103), .inl (s (i + 1))]) (rest := [.inr (.inl v)]) rfl rfl rfl rfl (Nat.le_of_ble_eq_true rfl) (.inr rfl) hT (by omega) ?_ rfl
  rintro r1 σ2 ⟨rfl, hI2⟩
  show jw_W (js_S n) _ md_law 681 [some (.inr (.inr 0)), some (.inr (.inr 13)), some (.inr (.inr 103)), some (.inl i)] [.inr (.inl v), .inr (.inl v)] σ2 _
  exact jv_W_el rfl rfl (next σ2 hI2)
set_option maxRecDepth 100000 in
theorem jv_o22 {n : Nat} {s : Int → Int} {σ : jw_H} {Q : Option jw_V → jw_H → Prop} (hI : jv_I n s σ) (hs : ∀ j, jw_rg (s j)) {i : Int} (i0 : 0 ≤ i) (i1 : i + 6 ≤ n) (hn : (n : Int) ≤ 3072) (next : ∀ σ', jv_I n s σ' → jw_W (js_S n) 32 md_law 1243 (jv_ls i) [] σ' Q) : jw_W (js_S n) 32 md_law 685 (jv_ls i) [] σ Q := by
  obtain ⟨o, C, hJ⟩ := hI
  have e0 : σ 0 = s := hJ.2.2.2.2.2.2
  refine jw_W_n 5 (i' := 690) (ls' := [some (.inr (.inr 0)), some (.inr (.inr 13)), some (.inr (.inr 103)), some (.inl i)]) (st' := [.inl (i + 1), .inr (.inr 0), .inr (.inr 13)]) rfl ?_
  refine jw_W_ia rfl rfl (by omega) (by omega) (by omega) ?_
  show jw_W (js_S n) _ md_law 691 [some (.inr (.inr 0)), some (.inr (.inr 13)), some (.inr (.inr 103)), some (.inl i)] [.inl (σ 0 (i + 1)), .inr (.inr 13)] σ _
  rw [e0]
  refine jw_W_n 4 (i' := 695) (ls' := [some (.inr (.inr 0)), some (.inr (.inr 13)), some (.inr (.inr 103)), some (.inl i)]) (st' := [.inl (i + 2), .inr (.inr 0), .inl (s (i + 1)), .inr (.inr 13)]) rfl ?_
  refine jw_W_ia rfl rfl (by omega) (by omega) (by omega) ?_
  show jw_W (js_S n) _ md_law 696 [some (.inr (.inr 0)), some (.inr (.inr 13)), some (.inr (.inr 103)), some (.inl i)] [.inl (σ 0 (i + 2)), .inl (s (i + 1)), .inr (.inr 13)] σ _
  rw [e0]
  refine jw_W_n 4 (i' := 700) (ls' := [some (.inr (.inr 0)), some (.inr (.inr 13)), some (.inr (.inr 103)), some (.inl i)]) (st' := [.inl (i + 3), .inr (.inr 0), .inl (s (i + 2)), .inl (s (i + 1)), .inr (.inr 13)]) rfl ?_
  refine jw_W_ia rfl rfl (by omega) (by omega) (by omega) ?_
  show jw_W (js_S n) _ md_law 701 [some (.inr (.inr 0)), some (.inr (.inr 13)), some (.inr (.inr 103)), some (.inl i)] [.inl (σ 0 (i + 3)), .inl (s (i + 2)), .inl (s (i + 1)), .inr (.inr 13)] σ _
  rw [e0]
  refine jw_W_n 4 (i' := 705) (ls' := [some (.inr (.inr 0)), some (.inr (.inr 13)), some (.inr (.inr 103)), some (.inl i)]) (st' := [.inl (i + 4), .inr (.inr 0), .inl (s (i + 3)), .inl (s (i + 2)), .inl (s (i + 1)), .inr (.inr 13)]) rfl ?_
  refine jw_W_ia rfl rfl (by omega) (by omega) (by omega) ?_
  show jw_W (js_S n) _ md_law 706 [some (.inr (.inr 0)), some (.inr (.inr 13)), some (.inr (.inr 103)), some (.inl i)] [.inl (σ 0 (i + 4)), .inl (s (i + 3)), .inl (s (i + 2)), .inl (s (i + 1)), .inr (.inr 13)] σ _
  rw [e0]
  refine jw_W_call (as := [.inr (.inr 13), .inl (s (i + 1)), .inl (s (i + 2)), .inl (s (i + 3)), .inl (s (i + 4))]) (rest := []) rfl rfl rfl rfl (Nat.le_of_ble_eq_true rfl) (.inr rfl) (jv_whole hJ (hs _) (hs _) (hs _) (hs _)) (by omega) ?_ rfl
  rintro r1 σ1 ⟨v, rfl, e1, hT⟩
  show jw_W (js_S n) _ md_law 707 [some (.inr (.inr 0)), some (.inr (.inr 13)), some (.inr (.inr 103)), some (.inl i)] [.inl v] σ1 _
  refine jw_W_n 5 (i' := 712) (ls' := [some (.inr (.inr 0)), some (.inr (.inr 13)), some (.inr (.inr 103)), some (.inl i)]) (st' := [.inl (i + 1), .inr (.inr 0), .inr (.inr 103), .inl v]) rfl ?_
  refine jw_W_ia rfl rfl (by omega) (by omega) (by omega) ?_
  show jw_W (js_S n) _ md_law 713 [some (.inr (.inr 0)), some (.inr (.inr 13)), some (.inr (.inr 103)), some (.inl i)] [.inl (σ1 0 (i + 1)), .inr (.inr 103), .inl v] σ1 _
  rw [e1]
  refine jw_W_n 4 (i' := 717) (ls' := [some (.inr (.inr 0)), some (.inr (.inr 13)), some (.inr (.inr 103)), some (.inl i)]) (st' := [.inl (i + 2), .inr (.inr 0), .inl (s (i + 1)), .inr (.inr 103), .inl v]) rfl ?_
  refine jw_W_ia rfl rfl (by omega) (by omega) (by omega) ?_
  show jw_W (js_S n) _ md_law 718 [some (.inr (.inr 0)), some (.inr (.inr 13)), some (.inr (.inr 103)), some (.inl i)] [.inl (σ1 0 (i + 2)), .inl (s (i + 1)), .inr (.inr 103), .inl v] σ1 _
  rw [e1]
  refine jw_W_n 4 (i' := 722) (ls' := [some (.inr (.inr 0)), some (.inr (.inr 13)), some (.inr (.inr 103)), some (.inl i)]) (st' := [.inl (i + 3), .inr (.inr 0), .inl (s (i + 2)), .inl (s (i + 1)), .inr (.inr 103), .inl v]) rfl ?_
  refine jw_W_ia rfl rfl (by omega) (by omega) (by omega) ?_
  show jw_W (js_S n) _ md_law 723 [some (.inr (.inr 0)), some (.inr (.inr 13)), some (.inr (.inr 103)), some (.inl i)] [.inl (σ1 0 (i + 3)), .inl (s (i + 2)), .inl (s (i + 1)), .inr (.inr 103), .inl v] σ1 _
  rw [e1]
  refine jw_W_n 4 (i' := 727) (ls' := [some (.inr (.inr 0)), some (.inr (.inr 13)), some (.inr (.inr 103)), some (.inl i)]) (st' := [.inl (i + 4), .inr (.inr 0), .inl (s (i + 3)), .inl (s (i + 2)), .inl (s (i + 1)), .inr (.inr 103), .inl v]) rfl ?_
  refine jw_W_ia rfl rfl (by omega) (by omega) (by omega) ?_
  show jw_W (js_S n) _ md_law 728 [some (.inr (.inr 0)), some (.inr (.inr 13)), some (.inr (.inr 103)), some (.inl i)] [.inl (σ1 0 (i + 4)), .inl (s (i + 3)), .inl (s (i + 2)), .inl (s (i + 1)), .inr (.inr 103), .inl v] σ1 _
  rw [e1]
  refine jw_W_call (as := [.inr (.inr 103), .inl (s (i + 1)), .inl (s (i + 2)), .inl (s (i + 3)), .inl (s (i + 4))]) (rest := [.inl v]) rfl rfl rfl rfl (Nat.le_of_ble_eq_true rfl) (.inr rfl) hT (by omega) ?_ rfl
  rintro r1 σ2 ⟨rfl, hI2⟩
  show jw_W (js_S n) _ md_law 729 [some (.inr (.inr 0)), some (.inr (.inr 13)), some (.inr (.inr 103)), some (.inl i)] [.inl v, .inl v] σ2 _
  exact jv_W_ei rfl (next σ2 hI2)
set_option maxRecDepth 100000 in
theorem jv_o23 {n : Nat} {s : Int → Int} {σ : jw_H} {Q : Option jw_V → jw_H → Prop} (hI : jv_I n s σ) (hs : ∀ j, jw_rg (s j)) {i : Int} (i0 : 0 ≤ i) (i1 : i + 6 ≤ n) (hn : (n : Int) ≤ 3072) (next : ∀ σ', jv_I n s σ' → jw_W (js_S n) 32 md_law 1243 (jv_ls i) [] σ' Q) : jw_W (js_S n) 32 md_law 732 (jv_ls i) [] σ Q := by
  obtain ⟨o, C, hJ⟩ := hI
  have e0 : σ 0 = s := hJ.2.2.2.2.2.2
  refine jw_W_n 5 (i' := 737) (ls' := [some (.inr (.inr 0)), some (.inr (.inr 13)), some (.inr (.inr 103)), some (.inl i)]) (st' := [.inl (i + 1), .inr (.inr 0), .inr (.inr 13)]) rfl ?_
  refine jw_W_ia rfl rfl (by omega) (by omega) (by omega) ?_
  show jw_W (js_S n) _ md_law 738 [some (.inr (.inr 0)), some (.inr (.inr 13)), some (.inr (.inr 103)), some (.inl i)] [.inl (σ 0 (i + 1)), .inr (.inr 13)] σ _
  rw [e0]
  refine jw_W_n 4 (i' := 742) (ls' := [some (.inr (.inr 0)), some (.inr (.inr 13)), some (.inr (.inr 103)), some (.inl i)]) (st' := [.inl (i + 2), .inr (.inr 0), .inl (s (i + 1)), .inr (.inr 13)]) rfl ?_
  refine jw_W_ia rfl rfl (by omega) (by omega) (by omega) ?_
  show jw_W (js_S n) _ md_law 743 [some (.inr (.inr 0)), some (.inr (.inr 13)), some (.inr (.inr 103)), some (.inl i)] [.inl (σ 0 (i + 2)), .inl (s (i + 1)), .inr (.inr 13)] σ _
  rw [e0]
  refine jw_W_n 4 (i' := 747) (ls' := [some (.inr (.inr 0)), some (.inr (.inr 13)), some (.inr (.inr 103)), some (.inl i)]) (st' := [.inl (i + 3), .inr (.inr 0), .inl (s (i + 2)), .inl (s (i + 1)), .inr (.inr 13)]) rfl ?_
  refine jw_W_ia rfl rfl (by omega) (by omega) (by omega) ?_
  show jw_W (js_S n) _ md_law 748 [some (.inr (.inr 0)), some (.inr (.inr 13)), some (.inr (.inr 103)), some (.inl i)] [.inl (σ 0 (i + 3)), .inl (s (i + 2)), .inl (s (i + 1)), .inr (.inr 13)] σ _
  rw [e0]
  refine jw_W_n 4 (i' := 752) (ls' := [some (.inr (.inr 0)), some (.inr (.inr 13)), some (.inr (.inr 103)), some (.inl i)]) (st' := [.inl (i + 4), .inr (.inr 0), .inl (s (i + 3)), .inl (s (i + 2)), .inl (s (i + 1)), .inr (.inr 13)]) rfl ?_
  refine jw_W_ia rfl rfl (by omega) (by omega) (by omega) ?_
  show jw_W (js_S n) _ md_law 753 [some (.inr (.inr 0)), some (.inr (.inr 13)), some (.inr (.inr 103)), some (.inl i)] [.inl (σ 0 (i + 4)), .inl (s (i + 3)), .inl (s (i + 2)), .inl (s (i + 1)), .inr (.inr 13)] σ _
  rw [e0]
  refine jw_W_n 4 (i' := 757) (ls' := [some (.inr (.inr 0)), some (.inr (.inr 13)), some (.inr (.inr 103)), some (.inl i)]) (st' := [.inl (i + 5), .inr (.inr 0), .inl (s (i + 4)), .inl (s (i + 3)), .inl (s (i + 2)), .inl (s (i + 1)), .inr (.inr 13)]) rfl ?_
  refine jw_W_ia rfl rfl (by omega) (by omega) (by omega) ?_
  show jw_W (js_S n) _ md_law 758 [some (.inr (.inr 0)), some (.inr (.inr 13)), some (.inr (.inr 103)), some (.inl i)] [.inl (σ 0 (i + 5)), .inl (s (i + 4)), .inl (s (i + 3)), .inl (s (i + 2)), .inl (s (i + 1)), .inr (.inr 13)] σ _
  rw [e0]
  refine jw_W_call (as := [.inr (.inr 13), .inl (s (i + 1)), .inl (s (i + 2)), .inl (s (i + 3)), .inl (s (i + 4)), .inl (s (i + 5))]) (rest := []) rfl rfl rfl rfl (Nat.le_of_ble_eq_true rfl) (.inr rfl) (jv_shadow hJ (hs _) (hs _) (hs _) (hs _) (hs _)) (by omega) ?_ rfl
  rintro r1 σ1 ⟨v, rfl, e1, hT⟩
  show jw_W (js_S n) _ md_law 759 [some (.inr (.inr 0)), some (.inr (.inr 13)), some (.inr (.inr 103)), some (.inl i)] [.inr (.inl v)] σ1 _
  refine jw_W_n 5 (i' := 764) (ls' := [some (.inr (.inr 0)), some (.inr (.inr 13)), some (.inr (.inr 103)), some (.inl i)]) (st' := [.inl (i + 1), .inr (.inr 0), .inr (.inr 103), .inr (.inl v)]) rfl ?_
  refine jw_W_ia rfl rfl (by omega) (by omega) (by omega) ?_
  show jw_W (js_S n) _ md_law 765 [some (.inr (.inr 0)), some (.inr (.inr 13)), some (.inr (.inr 103)), some (.inl i)] [.inl (σ1 0 (i + 1)), .inr (.inr 103), .inr (.inl v)] σ1 _
  rw [e1]
  refine jw_W_n 4 (i' := 769) (ls' := [some (.inr (.inr 0)), some (.inr (.inr 13)), some (.inr (.inr 103)), some (.inl i)]) (st' := [.inl (i + 2), .inr (.inr 0), .inl (s (i + 1)), .inr (.inr 103), .inr (.inl v)]) rfl ?_
  refine jw_W_ia rfl rfl (by omega) (by omega) (by omega) ?_
  show jw_W (js_S n) _ md_law 770 [some (.inr (.inr 0)), some (.inr (.inr 13)), some (.inr (.inr 103)), some (.inl i)] [.inl (σ1 0 (i + 2)), .inl (s (i + 1)), .inr (.inr 103), .inr (.inl v)] σ1 _
  rw [e1]
  refine jw_W_n 4 (i' := 774) (ls' := [some (.inr (.inr 0)), some (.inr (.inr 13)), some (.inr (.inr 103)), some (.inl i)]) (st' := [.inl (i + 3), .inr (.inr 0), .inl (s (i + 2)), .inl (s (i + 1)), .inr (.inr 103), .inr (.inl v)]) rfl ?_
  refine jw_W_ia rfl rfl (by omega) (by omega) (by omega) ?_
  show jw_W (js_S n) _ md_law 775 [some (.inr (.inr 0)), some (.inr (.inr 13)), some (.inr (.inr 103)), some (.inl i)] [.inl (σ1 0 (i + 3)), .inl (s (i + 2)), .inl (s (i + 1)), .inr (.inr 103), .inr (.inl v)] σ1 _
  rw [e1]
  refine jw_W_n 4 (i' := 779) (ls' := [some (.inr (.inr 0)), some (.inr (.inr 13)), some (.inr (.inr 103)), some (.inl i)]) (st' := [.inl (i + 4), .inr (.inr 0), .inl (s (i + 3)), .inl (s (i + 2)), .inl (s (i + 1)), .inr (.inr 103), .inr (.inl v)]) rfl ?_
  refine jw_W_ia rfl rfl (by omega) (by omega) (by omega) ?_
  show jw_W (js_S n) _ md_law 780 [some (.inr (.inr 0)), some (.inr (.inr 13)), some (.inr (.inr 103)), some (.inl i)] [.inl (σ1 0 (i + 4)), .inl (s (i + 3)), .inl (s (i + 2)), .inl (s (i + 1)), .inr (.inr 103), .inr (.inl v)] σ1 _
  rw [e1]
  refine jw_W_n 4 (i' := 784) (ls' := [some (.inr (.inr 0)), some (.inr (.inr 13)), some (.inr (.inr 103)), some (.inl i)]) (st' := [.inl (i + 5), .inr (.inr 0), .inl (s (i + 4)), .inl (s (i + 3)), .inl (s (i + 2)), .inl (s (i + 1)), .inr (.inr 103), .inr (.inl v)]) rfl ?_
  refine jw_W_ia rfl rfl (by omega) (by omega) (by omega) ?_
  show jw_W (js_S n) _ md_law 785 [some (.inr (.inr 0)), some (.inr (.inr 13)), some (.inr (.inr 103)), some (.inl i)] [.inl (σ1 0 (i + 5)), .inl (s (i + 4)), .inl (s (i + 3)), .inl (s (i + 2)), .inl (s (i + 1)), .inr (.inr 103), .inr (.inl v)] σ1 _
  rw [e1]
  refine jw_W_call (as := [.inr (.inr 103), .inl (s (i + 1)), .inl (s (i + 2)), .inl (s (i + 3)), .inl (s (i + 4)), .inl (s (i + 5))]) (rest := [.inr (.inl v)]) rfl rfl rfl rfl (Nat.le_of_ble_eq_true rfl) (.inr rfl) hT (by omega) ?_ rfl
  rintro r1 σ2 ⟨rfl, hI2⟩
  show jw_W (js_S n) _ md_law 786 [some (.inr (.inr 0)), some (.inr (.inr 13)), some (.inr (.inr 103)), some (.inl i)] [.inr (.inl v), .inr (.inl v)] σ2 _
  exact jv_W_el rfl rfl (next σ2 hI2)
set_option maxRecDepth 100000 in
theorem jv_o24 {n : Nat} {s : Int → Int} {σ : jw_H} {Q : Option jw_V → jw_H → Prop} (hI : jv_I n s σ) (hs : ∀ j, jw_rg (s j)) {i : Int} (i0 : 0 ≤ i) (i1 : i + 6 ≤ n) (hn : (n : Int) ≤ 3072) (next : ∀ σ', jv_I n s σ' → jw_W (js_S n) 32 md_law 1243 (jv_ls i) [] σ' Q) : jw_W (js_S n) 32 md_law 790 (jv_ls i) [] σ Q := by
  obtain ⟨o, C, hJ⟩ := hI
  have e0 : σ 0 = s := hJ.2.2.2.2.2.2
  refine jw_W_n 5 (i' := 795) (ls' := [some (.inr (.inr 0)), some (.inr (.inr 13)), some (.inr (.inr 103)), some (.inl i)]) (st' := [.inl (i + 1), .inr (.inr 0), .inr (.inr 13)]) rfl ?_
  refine jw_W_ia rfl rfl (by omega) (by omega) (by omega) ?_
  show jw_W (js_S n) _ md_law 796 [some (.inr (.inr 0)), some (.inr (.inr 13)), some (.inr (.inr 103)), some (.inl i)] [.inl (σ 0 (i + 1)), .inr (.inr 13)] σ _
  rw [e0]
  refine jw_W_n 4 (i' := 800) (ls' := [some (.inr (.inr 0)), some (.inr (.inr 13)), some (.inr (.inr 103)), some (.inl i)]) (st' := [.inl (i + 2), .inr (.inr 0), .inl (s (i + 1)), .inr (.inr 13)]) rfl ?_
  refine jw_W_ia rfl rfl (by omega) (by omega) (by omega) ?_
  show jw_W (js_S n) _ md_law 801 [some (.inr (.inr 0)), some (.inr (.inr 13)), some (.inr (.inr 103)), some (.inl i)] [.inl (σ 0 (i + 2)), .inl (s (i + 1)), .inr (.inr 13)] σ _
  rw [e0]
  refine jw_W_n 4 (i' := 805) (ls' := [some (.inr (.inr 0)), some (.inr (.inr 13)), some (.inr (.inr 103)), some (.inl i)]) (st' := [.inl (i + 3), .inr (.inr 0), .inl (s (i + 2)), .inl (s (i + 1)), .inr (.inr 13)]) rfl ?_
  refine jw_W_ia rfl rfl (by omega) (by omega) (by omega) ?_
  show jw_W (js_S n) _ md_law 806 [some (.inr (.inr 0)), some (.inr (.inr 13)), some (.inr (.inr 103)), some (.inl i)] [.inl (σ 0 (i + 3)), .inl (s (i + 2)), .inl (s (i + 1)), .inr (.inr 13)] σ _
  rw [e0]
  refine jw_W_call (as := [.inr (.inr 13), .inl (s (i + 1)), .inl (s (i + 2)), .inl (s (i + 3))]) (rest := []) rfl rfl rfl rfl (Nat.le_of_ble_eq_true rfl) (.inr rfl) (jv_slack hJ (hs _) (hs _) (hs _)) (by omega) ?_ rfl
  rintro r1 σ1 ⟨v, rfl, e1, hT⟩
  show jw_W (js_S n) _ md_law 807 [some (.inr (.inr 0)), some (.inr (.inr 13)), some (.inr (.inr 103)), some (.inl i)] [.inr (.inl v)] σ1 _
  refine jw_W_n 5 (i' := 812) (ls' := [some (.inr (.inr 0)), some (.inr (.inr 13)), some (.inr (.inr 103)), some (.inl i)]) (st' := [.inl (i + 1), .inr (.inr 0), .inr (.inr 103), .inr (.inl v)]) rfl ?_
  refine jw_W_ia rfl rfl (by omega) (by omega) (by omega) ?_
  show jw_W (js_S n) _ md_law 813 [some (.inr (.inr 0)), some (.inr (.inr 13)), some (.inr (.inr 103)), some (.inl i)] [.inl (σ1 0 (i + 1)), .inr (.inr 103), .inr (.inl v)] σ1 _
  rw [e1]
  refine jw_W_n 4 (i' := 817) (ls' := [some (.inr (.inr 0)), some (.inr (.inr 13)), some (.inr (.inr 103)), some (.inl i)]) (st' := [.inl (i + 2), .inr (.inr 0), .inl (s (i + 1)), .inr (.inr 103), .inr (.inl v)]) rfl ?_
  refine jw_W_ia rfl rfl (by omega) (by omega) (by omega) ?_
  show jw_W (js_S n) _ md_law 818 [some (.inr (.inr 0)), some (.inr (.inr 13)), some (.inr (.inr 103)), some (.inl i)] [.inl (σ1 0 (i + 2)), .inl (s (i + 1)), .inr (.inr 103), .inr (.inl v)] σ1 _
  rw [e1]
  refine jw_W_n 4 (i' := 822) (ls' := [some (.inr (.inr 0)), some (.inr (.inr 13)), some (.inr (.inr 103)), some (.inl i)]) (st' := [.inl (i + 3), .inr (.inr 0), .inl (s (i + 2)), .inl (s (i + 1)), .inr (.inr 103), .inr (.inl v)]) rfl ?_
  refine jw_W_ia rfl rfl (by omega) (by omega) (by omega) ?_
  show jw_W (js_S n) _ md_law 823 [some (.inr (.inr 0)), some (.inr (.inr 13)), some (.inr (.inr 103)), some (.inl i)] [.inl (σ1 0 (i + 3)), .inl (s (i + 2)), .inl (s (i + 1)), .inr (.inr 103), .inr (.inl v)] σ1 _
  rw [e1]
  refine jw_W_call (as := [.inr (.inr 103), .inl (s (i + 1)), .inl (s (i + 2)), .inl (s (i + 3))]) (rest := [.inr (.inl v)]) rfl rfl rfl rfl (Nat.le_of_ble_eq_true rfl) (.inr rfl) hT (by omega) ?_ rfl
  rintro r1 σ2 ⟨rfl, hI2⟩
  show jw_W (js_S n) _ md_law 824 [some (.inr (.inr 0)), some (.inr (.inr 13)), some (.inr (.inr 103)), some (.inl i)] [.inr (.inl v), .inr (.inl v)] σ2 _
  exact jv_W_el rfl rfl (next σ2 hI2)
set_option maxRecDepth 100000 in
theorem jv_o25 {n : Nat} {s : Int → Int} {σ : jw_H} {Q : Option jw_V → jw_H → Prop} (hI : jv_I n s σ) (hs : ∀ j, jw_rg (s j)) {i : Int} (i0 : 0 ≤ i) (i1 : i + 6 ≤ n) (hn : (n : Int) ≤ 3072) (next : ∀ σ', jv_I n s σ' → jw_W (js_S n) 32 md_law 1243 (jv_ls i) [] σ' Q) : jw_W (js_S n) 32 md_law 828 (jv_ls i) [] σ Q := by
  obtain ⟨o, C, hJ⟩ := hI
  have e0 : σ 0 = s := hJ.2.2.2.2.2.2
  refine jw_W_n 5 (i' := 833) (ls' := [some (.inr (.inr 0)), some (.inr (.inr 13)), some (.inr (.inr 103)), some (.inl i)]) (st' := [.inl (i + 1), .inr (.inr 0), .inr (.inr 13)]) rfl ?_
  refine jw_W_ia rfl rfl (by omega) (by omega) (by omega) ?_
  show jw_W (js_S n) _ md_law 834 [some (.inr (.inr 0)), some (.inr (.inr 13)), some (.inr (.inr 103)), some (.inl i)] [.inl (σ 0 (i + 1)), .inr (.inr 13)] σ _
  rw [e0]
  refine jw_W_if rfl (hs _) (fun hc1 => ?_) (fun hc1 => ?_)
  · have hc1 : (s (i + 1)) = 0 := hc1
    refine jw_W_n 5 (i' := 842) (ls' := [some (.inr (.inr 0)), some (.inr (.inr 13)), some (.inr (.inr 103)), some (.inl i)]) (st' := [.inl (i + 2), .inr (.inr 0), .inl 0, .inr (.inr 13)]) rfl ?_
    refine jw_W_ia rfl rfl (by omega) (by omega) (by omega) ?_
    show jw_W (js_S n) _ md_law 843 [some (.inr (.inr 0)), some (.inr (.inr 13)), some (.inr (.inr 103)), some (.inl i)] [.inl (σ 0 (i + 2)), .inl 0, .inr (.inr 13)] σ _
    rw [e0]
    refine jw_W_call (as := [.inr (.inr 13), .inl 0, .inl (s (i + 2))]) (rest := []) rfl rfl rfl rfl (Nat.le_of_ble_eq_true rfl) (.inr rfl) (jv_middle hJ (by unfold jw_rg; omega) (hs _)) (by omega) ?_ rfl
    rintro r1 σ1 ⟨v, rfl, e1, hT⟩
    show jw_W (js_S n) _ md_law 844 [some (.inr (.inr 0)), some (.inr (.inr 13)), some (.inr (.inr 103)), some (.inl i)] [.inr (.inl v)] σ1 _
    refine jw_W_n 5 (i' := 849) (ls' := [some (.inr (.inr 0)), some (.inr (.inr 13)), some (.inr (.inr 103)), some (.inl i)]) (st' := [.inl (i + 1), .inr (.inr 0), .inr (.inr 103), .inr (.inl v)]) rfl ?_
    refine jw_W_ia rfl rfl (by omega) (by omega) (by omega) ?_
    show jw_W (js_S n) _ md_law 850 [some (.inr (.inr 0)), some (.inr (.inr 13)), some (.inr (.inr 103)), some (.inl i)] [.inl (σ1 0 (i + 1)), .inr (.inr 103), .inr (.inl v)] σ1 _
    rw [e1]
    refine jw_W_if rfl (hs _) (fun hc2 => ?_) (fun hc2 => ?_)
    · have hc2 : (s (i + 1)) = 0 := hc2
      refine jw_W_n 5 (i' := 858) (ls' := [some (.inr (.inr 0)), some (.inr (.inr 13)), some (.inr (.inr 103)), some (.inl i)]) (st' := [.inl (i + 2), .inr (.inr 0), .inl 0, .inr (.inr 103), .inr (.inl v)]) rfl ?_
      refine jw_W_ia rfl rfl (by omega) (by omega) (by omega) ?_
      show jw_W (js_S n) _ md_law 859 [some (.inr (.inr 0)), some (.inr (.inr 13)), some (.inr (.inr 103)), some (.inl i)] [.inl (σ1 0 (i + 2)), .inl 0, .inr (.inr 103), .inr (.inl v)] σ1 _
      rw [e1]
      refine jw_W_call (as := [.inr (.inr 103), .inl 0, .inl (s (i + 2))]) (rest := [.inr (.inl v)]) rfl rfl rfl rfl (Nat.le_of_ble_eq_true rfl) (.inr rfl) hT (by omega) ?_ rfl
      rintro r1 σ2 ⟨rfl, hI2⟩
      show jw_W (js_S n) _ md_law 860 [some (.inr (.inr 0)), some (.inr (.inr 13)), some (.inr (.inr 103)), some (.inl i)] [.inr (.inl v), .inr (.inl v)] σ2 _
      exact jv_W_el rfl rfl (next σ2 hI2)
    · have hc2 : ¬ ((s (i + 1)) = 0) := hc2
      exfalso; omega
  · have hc1 : ¬ ((s (i + 1)) = 0) := hc1
    refine jw_W_n 6 (i' := 842) (ls' := [some (.inr (.inr 0)), some (.inr (.inr 13)), some (.inr (.inr 103)), some (.inl i)]) (st' := [.inl (i + 2), .inr (.inr 0), .inl 1, .inr (.inr 13)]) rfl ?_
    refine jw_W_ia rfl rfl (by omega) (by omega) (by omega) ?_
    show jw_W (js_S n) _ md_law 843 [some (.inr (.inr 0)), some (.inr (.inr 13)), some (.inr (.inr 103)), some (.inl i)] [.inl (σ 0 (i + 2)), .inl 1, .inr (.inr 13)] σ _
    rw [e0]
    refine jw_W_call (as := [.inr (.inr 13), .inl 1, .inl (s (i + 2))]) (rest := []) rfl rfl rfl rfl (Nat.le_of_ble_eq_true rfl) (.inr rfl) (jv_middle hJ (by unfold jw_rg; omega) (hs _)) (by omega) ?_ rfl
    rintro r1 σ1 ⟨v, rfl, e1, hT⟩
    show jw_W (js_S n) _ md_law 844 [some (.inr (.inr 0)), some (.inr (.inr 13)), some (.inr (.inr 103)), some (.inl i)] [.inr (.inl v)] σ1 _
    refine jw_W_n 5 (i' := 849) (ls' := [some (.inr (.inr 0)), some (.inr (.inr 13)), some (.inr (.inr 103)), some (.inl i)]) (st' := [.inl (i + 1), .inr (.inr 0), .inr (.inr 103), .inr (.inl v)]) rfl ?_
    refine jw_W_ia rfl rfl (by omega) (by omega) (by omega) ?_
    show jw_W (js_S n) _ md_law 850 [some (.inr (.inr 0)), some (.inr (.inr 13)), some (.inr (.inr 103)), some (.inl i)] [.inl (σ1 0 (i + 1)), .inr (.inr 103), .inr (.inl v)] σ1 _
    rw [e1]
    refine jw_W_if rfl (hs _) (fun hc3 => ?_) (fun hc3 => ?_)
    · have hc3 : (s (i + 1)) = 0 := hc3
      exfalso; omega
    · have hc3 : ¬ ((s (i + 1)) = 0) := hc3
      refine jw_W_n 6 (i' := 858) (ls' := [some (.inr (.inr 0)), some (.inr (.inr 13)), some (.inr (.inr 103)), some (.inl i)]) (st' := [.inl (i + 2), .inr (.inr 0), .inl 1, .inr (.inr 103), .inr (.inl v)]) rfl ?_
      refine jw_W_ia rfl rfl (by omega) (by omega) (by omega) ?_
      show jw_W (js_S n) _ md_law 859 [some (.inr (.inr 0)), some (.inr (.inr 13)), some (.inr (.inr 103)), some (.inl i)] [.inl (σ1 0 (i + 2)), .inl 1, .inr (.inr 103), .inr (.inl v)] σ1 _
      rw [e1]
      refine jw_W_call (as := [.inr (.inr 103), .inl 1, .inl (s (i + 2))]) (rest := [.inr (.inl v)]) rfl rfl rfl rfl (Nat.le_of_ble_eq_true rfl) (.inr rfl) hT (by omega) ?_ rfl
      rintro r1 σ2 ⟨rfl, hI2⟩
      show jw_W (js_S n) _ md_law 860 [some (.inr (.inr 0)), some (.inr (.inr 13)), some (.inr (.inr 103)), some (.inl i)] [.inr (.inl v), .inr (.inl v)] σ2 _
      exact jv_W_el rfl rfl (next σ2 hI2)
set_option maxRecDepth 100000 in
theorem jv_o26 {n : Nat} {s : Int → Int} {σ : jw_H} {Q : Option jw_V → jw_H → Prop} (hI : jv_I n s σ) (hs : ∀ j, jw_rg (s j)) {i : Int} (i0 : 0 ≤ i) (i1 : i + 6 ≤ n) (hn : (n : Int) ≤ 3072) (next : ∀ σ', jv_I n s σ' → jw_W (js_S n) 32 md_law 1243 (jv_ls i) [] σ' Q) : jw_W (js_S n) 32 md_law 864 (jv_ls i) [] σ Q := by
  obtain ⟨o, C, hJ⟩ := hI
  have e0 : σ 0 = s := hJ.2.2.2.2.2.2
  refine jw_W_n 5 (i' := 869) (ls' := [some (.inr (.inr 0)), some (.inr (.inr 13)), some (.inr (.inr 103)), some (.inl i)]) (st' := [.inl (i + 1), .inr (.inr 0), .inr (.inr 13)]) rfl ?_
  refine jw_W_ia rfl rfl (by omega) (by omega) (by omega) ?_
  show jw_W (js_S n) _ md_law 870 [some (.inr (.inr 0)), some (.inr (.inr 13)), some (.inr (.inr 103)), some (.inl i)] [.inl (σ 0 (i + 1)), .inr (.inr 13)] σ _
  rw [e0]
  refine jw_W_n 4 (i' := 874) (ls' := [some (.inr (.inr 0)), some (.inr (.inr 13)), some (.inr (.inr 103)), some (.inl i)]) (st' := [.inl (i + 2), .inr (.inr 0), .inl (s (i + 1)), .inr (.inr 13)]) rfl ?_
  refine jw_W_ia rfl rfl (by omega) (by omega) (by omega) ?_
  show jw_W (js_S n) _ md_law 875 [some (.inr (.inr 0)), some (.inr (.inr 13)), some (.inr (.inr 103)), some (.inl i)] [.inl (σ 0 (i + 2)), .inl (s (i + 1)), .inr (.inr 13)] σ _
  rw [e0]
  refine jw_W_n 4 (i' := 879) (ls' := [some (.inr (.inr 0)), some (.inr (.inr 13)), some (.inr (.inr 103)), some (.inl i)]) (st' := [.inl (i + 3), .inr (.inr 0), .inl (s (i + 2)), .inl (s (i + 1)), .inr (.inr 13)]) rfl ?_
  refine jw_W_ia rfl rfl (by omega) (by omega) (by omega) ?_
  show jw_W (js_S n) _ md_law 880 [some (.inr (.inr 0)), some (.inr (.inr 13)), some (.inr (.inr 103)), some (.inl i)] [.inl (σ 0 (i + 3)), .inl (s (i + 2)), .inl (s (i + 1)), .inr (.inr 13)] σ _
  rw [e0]
  refine jw_W_if rfl (hs _) (fun hc1 => ?_) (fun hc1 => ?_)
  · have hc1 : (s (i + 3)) = 0 := hc1
    refine jw_W_n 1 (i' := 884) (ls' := [some (.inr (.inr 0)), some (.inr (.inr 13)), some (.inr (.inr 103)), some (.inl i)]) (st' := [.inl 0, .inl (s (i + 2)), .inl (s (i + 1)), .inr (.inr 13)]) rfl ?_
    refine jw_W_call (as := [.inr (.inr 13), .inl (s (i + 1)), .inl (s (i + 2)), .inl 0]) (rest := []) rfl rfl rfl rfl (Nat.le_of_ble_eq_true rfl) (.inr rfl) (jv_reach hJ (hs _) (hs _) (by unfold jw_rg; omega)) (by omega) ?_ rfl
    rintro r1 σ1 ⟨v, rfl, e1, hT⟩
    show jw_W (js_S n) _ md_law 885 [some (.inr (.inr 0)), some (.inr (.inr 13)), some (.inr (.inr 103)), some (.inl i)] [.inl v] σ1 _
    refine jw_W_n 5 (i' := 890) (ls' := [some (.inr (.inr 0)), some (.inr (.inr 13)), some (.inr (.inr 103)), some (.inl i)]) (st' := [.inl (i + 1), .inr (.inr 0), .inr (.inr 103), .inl v]) rfl ?_
    refine jw_W_ia rfl rfl (by omega) (by omega) (by omega) ?_
    show jw_W (js_S n) _ md_law 891 [some (.inr (.inr 0)), some (.inr (.inr 13)), some (.inr (.inr 103)), some (.inl i)] [.inl (σ1 0 (i + 1)), .inr (.inr 103), .inl v] σ1 _
    rw [e1]
    refine jw_W_n 4 (i' := 895) (ls' := [some (.inr (.inr 0)), some (.inr (.inr 13)), some (.inr (.inr 103)), some (.inl i)]) (st' := [.inl (i + 2), .inr (.inr 0), .inl (s (i + 1)), .inr (.inr 103), .inl v]) rfl ?_
    refine jw_W_ia rfl rfl (by omega) (by omega) (by omega) ?_
    show jw_W (js_S n) _ md_law 896 [some (.inr (.inr 0)), some (.inr (.inr 13)), some (.inr (.inr 103)), some (.inl i)] [.inl (σ1 0 (i + 2)), .inl (s (i + 1)), .inr (.inr 103), .inl v] σ1 _
    rw [e1]
    refine jw_W_n 4 (i' := 900) (ls' := [some (.inr (.inr 0)), some (.inr (.inr 13)), some (.inr (.inr 103)), some (.inl i)]) (st' := [.inl (i + 3), .inr (.inr 0), .inl (s (i + 2)), .inl (s (i + 1)), .inr (.inr 103), .inl v]) rfl ?_
    refine jw_W_ia rfl rfl (by omega) (by omega) (by omega) ?_
    show jw_W (js_S n) _ md_law 901 [some (.inr (.inr 0)), some (.inr (.inr 13)), some (.inr (.inr 103)), some (.inl i)] [.inl (σ1 0 (i + 3)), .inl (s (i + 2)), .inl (s (i + 1)), .inr (.inr 103), .inl v] σ1 _
    rw [e1]
    refine jw_W_if rfl (hs _) (fun hc2 => ?_) (fun hc2 => ?_)
    · have hc2 : (s (i + 3)) = 0 := hc2
      refine jw_W_n 1 (i' := 905) (ls' := [some (.inr (.inr 0)), some (.inr (.inr 13)), some (.inr (.inr 103)), some (.inl i)]) (st' := [.inl 0, .inl (s (i + 2)), .inl (s (i + 1)), .inr (.inr 103), .inl v]) rfl ?_
      refine jw_W_call (as := [.inr (.inr 103), .inl (s (i + 1)), .inl (s (i + 2)), .inl 0]) (rest := [.inl v]) rfl rfl rfl rfl (Nat.le_of_ble_eq_true rfl) (.inr rfl) hT (by omega) ?_ rfl
      rintro r1 σ2 ⟨rfl, hI2⟩
      show jw_W (js_S n) _ md_law 906 [some (.inr (.inr 0)), some (.inr (.inr 13)), some (.inr (.inr 103)), some (.inl i)] [.inl v, .inl v] σ2 _
      exact jv_W_ei rfl (next σ2 hI2)
    · have hc2 : ¬ ((s (i + 3)) = 0) := hc2
      exfalso; omega
  · have hc1 : ¬ ((s (i + 3)) = 0) := hc1
    refine jw_W_n 2 (i' := 884) (ls' := [some (.inr (.inr 0)), some (.inr (.inr 13)), some (.inr (.inr 103)), some (.inl i)]) (st' := [.inl 1, .inl (s (i + 2)), .inl (s (i + 1)), .inr (.inr 13)]) rfl ?_
    refine jw_W_call (as := [.inr (.inr 13), .inl (s (i + 1)), .inl (s (i + 2)), .inl 1]) (rest := []) rfl rfl rfl rfl (Nat.le_of_ble_eq_true rfl) (.inr rfl) (jv_reach hJ (hs _) (hs _) (by unfold jw_rg; omega)) (by omega) ?_ rfl
    rintro r1 σ1 ⟨v, rfl, e1, hT⟩
    show jw_W (js_S n) _ md_law 885 [some (.inr (.inr 0)), some (.inr (.inr 13)), some (.inr (.inr 103)), some (.inl i)] [.inl v] σ1 _
    refine jw_W_n 5 (i' := 890) (ls' := [some (.inr (.inr 0)), some (.inr (.inr 13)), some (.inr (.inr 103)), some (.inl i)]) (st' := [.inl (i + 1), .inr (.inr 0), .inr (.inr 103), .inl v]) rfl ?_
    refine jw_W_ia rfl rfl (by omega) (by omega) (by omega) ?_
    show jw_W (js_S n) _ md_law 891 [some (.inr (.inr 0)), some (.inr (.inr 13)), some (.inr (.inr 103)), some (.inl i)] [.inl (σ1 0 (i + 1)), .inr (.inr 103), .inl v] σ1 _
    rw [e1]
    refine jw_W_n 4 (i' := 895) (ls' := [some (.inr (.inr 0)), some (.inr (.inr 13)), some (.inr (.inr 103)), some (.inl i)]) (st' := [.inl (i + 2), .inr (.inr 0), .inl (s (i + 1)), .inr (.inr 103), .inl v]) rfl ?_
    refine jw_W_ia rfl rfl (by omega) (by omega) (by omega) ?_
    show jw_W (js_S n) _ md_law 896 [some (.inr (.inr 0)), some (.inr (.inr 13)), some (.inr (.inr 103)), some (.inl i)] [.inl (σ1 0 (i + 2)), .inl (s (i + 1)), .inr (.inr 103), .inl v] σ1 _
    rw [e1]
    refine jw_W_n 4 (i' := 900) (ls' := [some (.inr (.inr 0)), some (.inr (.inr 13)), some (.inr (.inr 103)), some (.inl i)]) (st' := [.inl (i + 3), .inr (.inr 0), .inl (s (i + 2)), .inl (s (i + 1)), .inr (.inr 103), .inl v]) rfl ?_
    refine jw_W_ia rfl rfl (by omega) (by omega) (by omega) ?_
    show jw_W (js_S n) _ md_law 901 [some (.inr (.inr 0)), some (.inr (.inr 13)), some (.inr (.inr 103)), some (.inl i)] [.inl (σ1 0 (i + 3)), .inl (s (i + 2)), .inl (s (i + 1)), .inr (.inr 103), .inl v] σ1 _
    rw [e1]
    refine jw_W_if rfl (hs _) (fun hc3 => ?_) (fun hc3 => ?_)
    · have hc3 : (s (i + 3)) = 0 := hc3
      exfalso; omega
    · have hc3 : ¬ ((s (i + 3)) = 0) := hc3
      refine jw_W_n 2 (i' := 905) (ls' := [some (.inr (.inr 0)), some (.inr (.inr 13)), some (.inr (.inr 103)), some (.inl i)]) (st' := [.inl 1, .inl (s (i + 2)), .inl (s (i + 1)), .inr (.inr 103), .inl v]) rfl ?_
      refine jw_W_call (as := [.inr (.inr 103), .inl (s (i + 1)), .inl (s (i + 2)), .inl 1]) (rest := [.inl v]) rfl rfl rfl rfl (Nat.le_of_ble_eq_true rfl) (.inr rfl) hT (by omega) ?_ rfl
      rintro r1 σ2 ⟨rfl, hI2⟩
      show jw_W (js_S n) _ md_law 906 [some (.inr (.inr 0)), some (.inr (.inr 13)), some (.inr (.inr 103)), some (.inl i)] [.inl v, .inl v] σ2 _
      exact jv_W_ei rfl (next σ2 hI2)
set_option maxRecDepth 100000 in
theorem jv_o27 {n : Nat} {s : Int → Int} {σ : jw_H} {Q : Option jw_V → jw_H → Prop} (hI : jv_I n s σ) (hs : ∀ j, jw_rg (s j)) {i : Int} (i0 : 0 ≤ i) (i1 : i + 6 ≤ n) (hn : (n : Int) ≤ 3072) (next : ∀ σ', jv_I n s σ' → jw_W (js_S n) 32 md_law 1243 (jv_ls i) [] σ' Q) : jw_W (js_S n) 32 md_law 909 (jv_ls i) [] σ Q := by
  obtain ⟨o, C, hJ⟩ := hI
  have e0 : σ 0 = s := hJ.2.2.2.2.2.2
  refine jw_W_n 5 (i' := 914) (ls' := [some (.inr (.inr 0)), some (.inr (.inr 13)), some (.inr (.inr 103)), some (.inl i)]) (st' := [.inl (i + 1), .inr (.inr 0), .inr (.inr 13)]) rfl ?_
  refine jw_W_ia rfl rfl (by omega) (by omega) (by omega) ?_
  show jw_W (js_S n) _ md_law 915 [some (.inr (.inr 0)), some (.inr (.inr 13)), some (.inr (.inr 103)), some (.inl i)] [.inl (σ 0 (i + 1)), .inr (.inr 13)] σ _
  rw [e0]
  refine jw_W_n 4 (i' := 919) (ls' := [some (.inr (.inr 0)), some (.inr (.inr 13)), some (.inr (.inr 103)), some (.inl i)]) (st' := [.inl (i + 2), .inr (.inr 0), .inl (s (i + 1)), .inr (.inr 13)]) rfl ?_
  refine jw_W_ia rfl rfl (by omega) (by omega) (by omega) ?_
  show jw_W (js_S n) _ md_law 920 [some (.inr (.inr 0)), some (.inr (.inr 13)), some (.inr (.inr 103)), some (.inl i)] [.inl (σ 0 (i + 2)), .inl (s (i + 1)), .inr (.inr 13)] σ _
  rw [e0]
  refine jw_W_call (as := [.inr (.inr 13), .inl (s (i + 1)), .inl (s (i + 2))]) (rest := []) rfl rfl rfl rfl (Nat.le_of_ble_eq_true rfl) (.inr rfl) (jv_far hJ (hs _) (hs _)) (by omega) ?_ rfl
  rintro r1 σ1 ⟨v, rfl, e1, hT⟩
  show jw_W (js_S n) _ md_law 921 [some (.inr (.inr 0)), some (.inr (.inr 13)), some (.inr (.inr 103)), some (.inl i)] [.inl v] σ1 _
  refine jw_W_n 5 (i' := 926) (ls' := [some (.inr (.inr 0)), some (.inr (.inr 13)), some (.inr (.inr 103)), some (.inl i)]) (st' := [.inl (i + 1), .inr (.inr 0), .inr (.inr 103), .inl v]) rfl ?_
  refine jw_W_ia rfl rfl (by omega) (by omega) (by omega) ?_
  show jw_W (js_S n) _ md_law 927 [some (.inr (.inr 0)), some (.inr (.inr 13)), some (.inr (.inr 103)), some (.inl i)] [.inl (σ1 0 (i + 1)), .inr (.inr 103), .inl v] σ1 _
  rw [e1]
  refine jw_W_n 4 (i' := 931) (ls' := [some (.inr (.inr 0)), some (.inr (.inr 13)), some (.inr (.inr 103)), some (.inl i)]) (st' := [.inl (i + 2), .inr (.inr 0), .inl (s (i + 1)), .inr (.inr 103), .inl v]) rfl ?_
  refine jw_W_ia rfl rfl (by omega) (by omega) (by omega) ?_
  show jw_W (js_S n) _ md_law 932 [some (.inr (.inr 0)), some (.inr (.inr 13)), some (.inr (.inr 103)), some (.inl i)] [.inl (σ1 0 (i + 2)), .inl (s (i + 1)), .inr (.inr 103), .inl v] σ1 _
  rw [e1]
  refine jw_W_call (as := [.inr (.inr 103), .inl (s (i + 1)), .inl (s (i + 2))]) (rest := [.inl v]) rfl rfl rfl rfl (Nat.le_of_ble_eq_true rfl) (.inr rfl) hT (by omega) ?_ rfl
  rintro r1 σ2 ⟨rfl, hI2⟩
  show jw_W (js_S n) _ md_law 933 [some (.inr (.inr 0)), some (.inr (.inr 13)), some (.inr (.inr 103)), some (.inl i)] [.inl v, .inl v] σ2 _
  exact jv_W_ei rfl (next σ2 hI2)
set_option maxRecDepth 100000 in
theorem jv_o28 {n : Nat} {s : Int → Int} {σ : jw_H} {Q : Option jw_V → jw_H → Prop} (hI : jv_I n s σ) (hs : ∀ j, jw_rg (s j)) {i : Int} (i0 : 0 ≤ i) (i1 : i + 6 ≤ n) (hn : (n : Int) ≤ 3072) (next : ∀ σ', jv_I n s σ' → jw_W (js_S n) 32 md_law 1243 (jv_ls i) [] σ' Q) : jw_W (js_S n) 32 md_law 936 (jv_ls i) [] σ Q := by
  obtain ⟨o, C, hJ⟩ := hI
  have e0 : σ 0 = s := hJ.2.2.2.2.2.2
  refine jw_W_n 5 (i' := 941) (ls' := [some (.inr (.inr 0)), some (.inr (.inr 13)), some (.inr (.inr 103)), some (.inl i)]) (st' := [.inl (i + 1), .inr (.inr 0), .inr (.inr 13)]) rfl ?_
  refine jw_W_ia rfl rfl (by omega) (by omega) (by omega) ?_
  show jw_W (js_S n) _ md_law 942 [some (.inr (.inr 0)), some (.inr (.inr 13)), some (.inr (.inr 103)), some (.inl i)] [.inl (σ 0 (i + 1)), .inr (.inr 13)] σ _
  rw [e0]
  refine jw_W_n 4 (i' := 946) (ls' := [some (.inr (.inr 0)), some (.inr (.inr 13)), some (.inr (.inr 103)), some (.inl i)]) (st' := [.inl (i + 2), .inr (.inr 0), .inl (s (i + 1)), .inr (.inr 13)]) rfl ?_
  refine jw_W_ia rfl rfl (by omega) (by omega) (by omega) ?_
  show jw_W (js_S n) _ md_law 947 [some (.inr (.inr 0)), some (.inr (.inr 13)), some (.inr (.inr 103)), some (.inl i)] [.inl (σ 0 (i + 2)), .inl (s (i + 1)), .inr (.inr 13)] σ _
  rw [e0]
  refine jw_W_n 4 (i' := 951) (ls' := [some (.inr (.inr 0)), some (.inr (.inr 13)), some (.inr (.inr 103)), some (.inl i)]) (st' := [.inl (i + 3), .inr (.inr 0), .inl (s (i + 2)), .inl (s (i + 1)), .inr (.inr 13)]) rfl ?_
  refine jw_W_ia rfl rfl (by omega) (by omega) (by omega) ?_
  show jw_W (js_S n) _ md_law 952 [some (.inr (.inr 0)), some (.inr (.inr 13)), some (.inr (.inr 103)), some (.inl i)] [.inl (σ 0 (i + 3)), .inl (s (i + 2)), .inl (s (i + 1)), .inr (.inr 13)] σ _
  rw [e0]
  refine jw_W_call (as := [.inr (.inr 13), .inl (s (i + 1)), .inl (s (i + 2)), .inl (s (i + 3))]) (rest := []) rfl rfl rfl rfl (Nat.le_of_ble_eq_true rfl) (.inr rfl) (jv_along hJ (hs _) (hs _) (hs _)) (by omega) ?_ rfl
  rintro r1 σ1 ⟨v, rfl, e1, hT⟩
  show jw_W (js_S n) _ md_law 953 [some (.inr (.inr 0)), some (.inr (.inr 13)), some (.inr (.inr 103)), some (.inl i)] [.inl v] σ1 _
  refine jw_W_n 5 (i' := 958) (ls' := [some (.inr (.inr 0)), some (.inr (.inr 13)), some (.inr (.inr 103)), some (.inl i)]) (st' := [.inl (i + 1), .inr (.inr 0), .inr (.inr 103), .inl v]) rfl ?_
  refine jw_W_ia rfl rfl (by omega) (by omega) (by omega) ?_
  show jw_W (js_S n) _ md_law 959 [some (.inr (.inr 0)), some (.inr (.inr 13)), some (.inr (.inr 103)), some (.inl i)] [.inl (σ1 0 (i + 1)), .inr (.inr 103), .inl v] σ1 _
  rw [e1]
  refine jw_W_n 4 (i' := 963) (ls' := [some (.inr (.inr 0)), some (.inr (.inr 13)), some (.inr (.inr 103)), some (.inl i)]) (st' := [.inl (i + 2), .inr (.inr 0), .inl (s (i + 1)), .inr (.inr 103), .inl v]) rfl ?_
  refine jw_W_ia rfl rfl (by omega) (by omega) (by omega) ?_
  show jw_W (js_S n) _ md_law 964 [some (.inr (.inr 0)), some (.inr (.inr 13)), some (.inr (.inr 103)), some (.inl i)] [.inl (σ1 0 (i + 2)), .inl (s (i + 1)), .inr (.inr 103), .inl v] σ1 _
  rw [e1]
  refine jw_W_n 4 (i' := 968) (ls' := [some (.inr (.inr 0)), some (.inr (.inr 13)), some (.inr (.inr 103)), some (.inl i)]) (st' := [.inl (i + 3), .inr (.inr 0), .inl (s (i + 2)), .inl (s (i + 1)), .inr (.inr 103), .inl v]) rfl ?_
  refine jw_W_ia rfl rfl (by omega) (by omega) (by omega) ?_
  show jw_W (js_S n) _ md_law 969 [some (.inr (.inr 0)), some (.inr (.inr 13)), some (.inr (.inr 103)), some (.inl i)] [.inl (σ1 0 (i + 3)), .inl (s (i + 2)), .inl (s (i + 1)), .inr (.inr 103), .inl v] σ1 _
  rw [e1]
  refine jw_W_call (as := [.inr (.inr 103), .inl (s (i + 1)), .inl (s (i + 2)), .inl (s (i + 3))]) (rest := [.inl v]) rfl rfl rfl rfl (Nat.le_of_ble_eq_true rfl) (.inr rfl) hT (by omega) ?_ rfl
  rintro r1 σ2 ⟨rfl, hI2⟩
  show jw_W (js_S n) _ md_law 970 [some (.inr (.inr 0)), some (.inr (.inr 13)), some (.inr (.inr 103)), some (.inl i)] [.inl v, .inl v] σ2 _
  exact jv_W_ei rfl (next σ2 hI2)
set_option maxRecDepth 100000 in
theorem jv_o29 {n : Nat} {s : Int → Int} {σ : jw_H} {Q : Option jw_V → jw_H → Prop} (hI : jv_I n s σ) (hs : ∀ j, jw_rg (s j)) {i : Int} (i0 : 0 ≤ i) (i1 : i + 6 ≤ n) (hn : (n : Int) ≤ 3072) (next : ∀ σ', jv_I n s σ' → jw_W (js_S n) 32 md_law 1243 (jv_ls i) [] σ' Q) : jw_W (js_S n) 32 md_law 973 (jv_ls i) [] σ Q := by
  obtain ⟨o, C, hJ⟩ := hI
  have e0 : σ 0 = s := hJ.2.2.2.2.2.2
  refine jw_W_n 5 (i' := 978) (ls' := [some (.inr (.inr 0)), some (.inr (.inr 13)), some (.inr (.inr 103)), some (.inl i)]) (st' := [.inl (i + 1), .inr (.inr 0), .inr (.inr 13)]) rfl ?_
  refine jw_W_ia rfl rfl (by omega) (by omega) (by omega) ?_
  show jw_W (js_S n) _ md_law 979 [some (.inr (.inr 0)), some (.inr (.inr 13)), some (.inr (.inr 103)), some (.inl i)] [.inl (σ 0 (i + 1)), .inr (.inr 13)] σ _
  rw [e0]
  refine jw_W_call (as := [.inr (.inr 13), .inl (s (i + 1))]) (rest := []) rfl rfl rfl rfl (Nat.le_of_ble_eq_true rfl) (.inr rfl) (jv_regret hJ (hs _)) (by omega) ?_ rfl
  rintro r1 σ1 ⟨v, rfl, e1, hT⟩
  show jw_W (js_S n) _ md_law 980 [some (.inr (.inr 0)), some (.inr (.inr 13)), some (.inr (.inr 103)), some (.inl i)] [.inr (.inl v)] σ1 _
  refine jw_W_n 5 (i' := 985) (ls' := [some (.inr (.inr 0)), some (.inr (.inr 13)), some (.inr (.inr 103)), some (.inl i)]) (st' := [.inl (i + 1), .inr (.inr 0), .inr (.inr 103), .inr (.inl v)]) rfl ?_
  refine jw_W_ia rfl rfl (by omega) (by omega) (by omega) ?_
  show jw_W (js_S n) _ md_law 986 [some (.inr (.inr 0)), some (.inr (.inr 13)), some (.inr (.inr 103)), some (.inl i)] [.inl (σ1 0 (i + 1)), .inr (.inr 103), .inr (.inl v)] σ1 _
  rw [e1]
  refine jw_W_call (as := [.inr (.inr 103), .inl (s (i + 1))]) (rest := [.inr (.inl v)]) rfl rfl rfl rfl (Nat.le_of_ble_eq_true rfl) (.inr rfl) hT (by omega) ?_ rfl
  rintro r1 σ2 ⟨rfl, hI2⟩
  show jw_W (js_S n) _ md_law 987 [some (.inr (.inr 0)), some (.inr (.inr 13)), some (.inr (.inr 103)), some (.inl i)] [.inr (.inl v), .inr (.inl v)] σ2 _
  exact jv_W_el rfl rfl (next σ2 hI2)
set_option maxRecDepth 100000 in
theorem jv_o30 {n : Nat} {s : Int → Int} {σ : jw_H} {Q : Option jw_V → jw_H → Prop} (hI : jv_I n s σ) (hs : ∀ j, jw_rg (s j)) {i : Int} (i0 : 0 ≤ i) (i1 : i + 6 ≤ n) (hn : (n : Int) ≤ 3072) (next : ∀ σ', jv_I n s σ' → jw_W (js_S n) 32 md_law 1243 (jv_ls i) [] σ' Q) : jw_W (js_S n) 32 md_law 991 (jv_ls i) [] σ Q := by
  obtain ⟨o, C, hJ⟩ := hI
  have e0 : σ 0 = s := hJ.2.2.2.2.2.2
  refine jw_W_n 5 (i' := 996) (ls' := [some (.inr (.inr 0)), some (.inr (.inr 13)), some (.inr (.inr 103)), some (.inl i)]) (st' := [.inl (i + 1), .inr (.inr 0), .inr (.inr 13)]) rfl ?_
  refine jw_W_ia rfl rfl (by omega) (by omega) (by omega) ?_
  show jw_W (js_S n) _ md_law 997 [some (.inr (.inr 0)), some (.inr (.inr 13)), some (.inr (.inr 103)), some (.inl i)] [.inl (σ 0 (i + 1)), .inr (.inr 13)] σ _
  rw [e0]
  refine jw_W_call (as := [.inr (.inr 13), .inl (s (i + 1))]) (rest := []) rfl rfl rfl rfl (Nat.le_of_ble_eq_true rfl) (.inr rfl) (jv_area hJ (hs _)) (by omega) ?_ rfl
  rintro r1 σ1 ⟨v, rfl, e1, hT⟩
  show jw_W (js_S n) _ md_law 998 [some (.inr (.inr 0)), some (.inr (.inr 13)), some (.inr (.inr 103)), some (.inl i)] [.inr (.inl v)] σ1 _
  refine jw_W_n 5 (i' := 1003) (ls' := [some (.inr (.inr 0)), some (.inr (.inr 13)), some (.inr (.inr 103)), some (.inl i)]) (st' := [.inl (i + 1), .inr (.inr 0), .inr (.inr 103), .inr (.inl v)]) rfl ?_
  refine jw_W_ia rfl rfl (by omega) (by omega) (by omega) ?_
  show jw_W (js_S n) _ md_law 1004 [some (.inr (.inr 0)), some (.inr (.inr 13)), some (.inr (.inr 103)), some (.inl i)] [.inl (σ1 0 (i + 1)), .inr (.inr 103), .inr (.inl v)] σ1 _
  rw [e1]
  refine jw_W_call (as := [.inr (.inr 103), .inl (s (i + 1))]) (rest := [.inr (.inl v)]) rfl rfl rfl rfl (Nat.le_of_ble_eq_true rfl) (.inr rfl) hT (by omega) ?_ rfl
  rintro r1 σ2 ⟨rfl, hI2⟩
  show jw_W (js_S n) _ md_law 1005 [some (.inr (.inr 0)), some (.inr (.inr 13)), some (.inr (.inr 103)), some (.inl i)] [.inr (.inl v), .inr (.inl v)] σ2 _
  exact jv_W_el rfl rfl (next σ2 hI2)
set_option maxRecDepth 100000 in
theorem jv_o31 {n : Nat} {s : Int → Int} {σ : jw_H} {Q : Option jw_V → jw_H → Prop} (hI : jv_I n s σ) (hs : ∀ j, jw_rg (s j)) {i : Int} (i0 : 0 ≤ i) (i1 : i + 6 ≤ n) (hn : (n : Int) ≤ 3072) (next : ∀ σ', jv_I n s σ' → jw_W (js_S n) 32 md_law 1243 (jv_ls i) [] σ' Q) : jw_W (js_S n) 32 md_law 1009 (jv_ls i) [] σ Q := by
  obtain ⟨o, C, hJ⟩ := hI
  have e0 : σ 0 = s := hJ.2.2.2.2.2.2
  refine jw_W_n 5 (i' := 1014) (ls' := [some (.inr (.inr 0)), some (.inr (.inr 13)), some (.inr (.inr 103)), some (.inl i)]) (st' := [.inl (i + 1), .inr (.inr 0), .inr (.inr 13)]) rfl ?_
  refine jw_W_ia rfl rfl (by omega) (by omega) (by omega) ?_
  show jw_W (js_S n) _ md_law 1015 [some (.inr (.inr 0)), some (.inr (.inr 13)), some (.inr (.inr 103)), some (.inl i)] [.inl (σ 0 (i + 1)), .inr (.inr 13)] σ _
  rw [e0]
  refine jw_W_n 4 (i' := 1019) (ls' := [some (.inr (.inr 0)), some (.inr (.inr 13)), some (.inr (.inr 103)), some (.inl i)]) (st' := [.inl (i + 2), .inr (.inr 0), .inl (s (i + 1)), .inr (.inr 13)]) rfl ?_
  refine jw_W_ia rfl rfl (by omega) (by omega) (by omega) ?_
  show jw_W (js_S n) _ md_law 1020 [some (.inr (.inr 0)), some (.inr (.inr 13)), some (.inr (.inr 103)), some (.inl i)] [.inl (σ 0 (i + 2)), .inl (s (i + 1)), .inr (.inr 13)] σ _
  rw [e0]
  refine jw_W_call (as := [.inr (.inr 13), .inl (s (i + 1)), .inl (s (i + 2))]) (rest := []) rfl rfl rfl rfl (Nat.le_of_ble_eq_true rfl) (.inr rfl) (jv_ranked hJ (hs _) (hs _)) (by omega) ?_ rfl
  rintro r1 σ1 ⟨v, rfl, e1, hT⟩
  show jw_W (js_S n) _ md_law 1021 [some (.inr (.inr 0)), some (.inr (.inr 13)), some (.inr (.inr 103)), some (.inl i)] [.inl v] σ1 _
  refine jw_W_n 5 (i' := 1026) (ls' := [some (.inr (.inr 0)), some (.inr (.inr 13)), some (.inr (.inr 103)), some (.inl i)]) (st' := [.inl (i + 1), .inr (.inr 0), .inr (.inr 103), .inl v]) rfl ?_
  refine jw_W_ia rfl rfl (by omega) (by omega) (by omega) ?_
  show jw_W (js_S n) _ md_law 1027 [some (.inr (.inr 0)), some (.inr (.inr 13)), some (.inr (.inr 103)), some (.inl i)] [.inl (σ1 0 (i + 1)), .inr (.inr 103), .inl v] σ1 _
  rw [e1]
  refine jw_W_n 4 (i' := 1031) (ls' := [some (.inr (.inr 0)), some (.inr (.inr 13)), some (.inr (.inr 103)), some (.inl i)]) (st' := [.inl (i + 2), .inr (.inr 0), .inl (s (i + 1)), .inr (.inr 103), .inl v]) rfl ?_
  refine jw_W_ia rfl rfl (by omega) (by omega) (by omega) ?_
  show jw_W (js_S n) _ md_law 1032 [some (.inr (.inr 0)), some (.inr (.inr 13)), some (.inr (.inr 103)), some (.inl i)] [.inl (σ1 0 (i + 2)), .inl (s (i + 1)), .inr (.inr 103), .inl v] σ1 _
  rw [e1]
  refine jw_W_call (as := [.inr (.inr 103), .inl (s (i + 1)), .inl (s (i + 2))]) (rest := [.inl v]) rfl rfl rfl rfl (Nat.le_of_ble_eq_true rfl) (.inr rfl) hT (by omega) ?_ rfl
  rintro r1 σ2 ⟨rfl, hI2⟩
  show jw_W (js_S n) _ md_law 1033 [some (.inr (.inr 0)), some (.inr (.inr 13)), some (.inr (.inr 103)), some (.inl i)] [.inl v, .inl v] σ2 _
  exact jv_W_ei rfl (next σ2 hI2)
set_option maxRecDepth 100000 in
theorem jv_o32 {n : Nat} {s : Int → Int} {σ : jw_H} {Q : Option jw_V → jw_H → Prop} (hI : jv_I n s σ) (hs : ∀ j, jw_rg (s j)) {i : Int} (i0 : 0 ≤ i) (i1 : i + 6 ≤ n) (hn : (n : Int) ≤ 3072) (next : ∀ σ', jv_I n s σ' → jw_W (js_S n) 32 md_law 1243 (jv_ls i) [] σ' Q) : jw_W (js_S n) 32 md_law 1036 (jv_ls i) [] σ Q := by
  obtain ⟨o, C, hJ⟩ := hI
  have e0 : σ 0 = s := hJ.2.2.2.2.2.2
  refine jw_W_n 5 (i' := 1041) (ls' := [some (.inr (.inr 0)), some (.inr (.inr 13)), some (.inr (.inr 103)), some (.inl i)]) (st' := [.inl (i + 1), .inr (.inr 0), .inr (.inr 13)]) rfl ?_
  refine jw_W_ia rfl rfl (by omega) (by omega) (by omega) ?_
  show jw_W (js_S n) _ md_law 1042 [some (.inr (.inr 0)), some (.inr (.inr 13)), some (.inr (.inr 103)), some (.inl i)] [.inl (σ 0 (i + 1)), .inr (.inr 13)] σ _
  rw [e0]
  refine jw_W_n 4 (i' := 1046) (ls' := [some (.inr (.inr 0)), some (.inr (.inr 13)), some (.inr (.inr 103)), some (.inl i)]) (st' := [.inl (i + 2), .inr (.inr 0), .inl (s (i + 1)), .inr (.inr 13)]) rfl ?_
  refine jw_W_ia rfl rfl (by omega) (by omega) (by omega) ?_
  show jw_W (js_S n) _ md_law 1047 [some (.inr (.inr 0)), some (.inr (.inr 13)), some (.inr (.inr 103)), some (.inl i)] [.inl (σ 0 (i + 2)), .inl (s (i + 1)), .inr (.inr 13)] σ _
  rw [e0]
  refine jw_W_n 4 (i' := 1051) (ls' := [some (.inr (.inr 0)), some (.inr (.inr 13)), some (.inr (.inr 103)), some (.inl i)]) (st' := [.inl (i + 3), .inr (.inr 0), .inl (s (i + 2)), .inl (s (i + 1)), .inr (.inr 13)]) rfl ?_
  refine jw_W_ia rfl rfl (by omega) (by omega) (by omega) ?_
  show jw_W (js_S n) _ md_law 1052 [some (.inr (.inr 0)), some (.inr (.inr 13)), some (.inr (.inr 103)), some (.inl i)] [.inl (σ 0 (i + 3)), .inl (s (i + 2)), .inl (s (i + 1)), .inr (.inr 13)] σ _
  rw [e0]
  refine jw_W_n 4 (i' := 1056) (ls' := [some (.inr (.inr 0)), some (.inr (.inr 13)), some (.inr (.inr 103)), some (.inl i)]) (st' := [.inl (i + 4), .inr (.inr 0), .inl (s (i + 3)), .inl (s (i + 2)), .inl (s (i + 1)), .inr (.inr 13)]) rfl ?_
  refine jw_W_ia rfl rfl (by omega) (by omega) (by omega) ?_
  show jw_W (js_S n) _ md_law 1057 [some (.inr (.inr 0)), some (.inr (.inr 13)), some (.inr (.inr 103)), some (.inl i)] [.inl (σ 0 (i + 4)), .inl (s (i + 3)), .inl (s (i + 2)), .inl (s (i + 1)), .inr (.inr 13)] σ _
  rw [e0]
  refine jw_W_n 4 (i' := 1061) (ls' := [some (.inr (.inr 0)), some (.inr (.inr 13)), some (.inr (.inr 103)), some (.inl i)]) (st' := [.inl (i + 5), .inr (.inr 0), .inl (s (i + 4)), .inl (s (i + 3)), .inl (s (i + 2)), .inl (s (i + 1)), .inr (.inr 13)]) rfl ?_
  refine jw_W_ia rfl rfl (by omega) (by omega) (by omega) ?_
  show jw_W (js_S n) _ md_law 1062 [some (.inr (.inr 0)), some (.inr (.inr 13)), some (.inr (.inr 103)), some (.inl i)] [.inl (σ 0 (i + 5)), .inl (s (i + 4)), .inl (s (i + 3)), .inl (s (i + 2)), .inl (s (i + 1)), .inr (.inr 13)] σ _
  rw [e0]
  refine jw_W_call (as := [.inr (.inr 13), .inl (s (i + 1)), .inl (s (i + 2)), .inl (s (i + 3)), .inl (s (i + 4)), .inl (s (i + 5))]) (rest := []) rfl rfl rfl rfl (Nat.le_of_ble_eq_true rfl) (.inr rfl) (jv_price hJ (hs _) (hs _) (hs _) (hs _) (hs _)) (by omega) ?_ rfl
  rintro r1 σ1 ⟨v, rfl, e1, hT⟩
  show jw_W (js_S n) _ md_law 1063 [some (.inr (.inr 0)), some (.inr (.inr 13)), some (.inr (.inr 103)), some (.inl i)] [.inr (.inl v)] σ1 _
  refine jw_W_n 5 (i' := 1068) (ls' := [some (.inr (.inr 0)), some (.inr (.inr 13)), some (.inr (.inr 103)), some (.inl i)]) (st' := [.inl (i + 1), .inr (.inr 0), .inr (.inr 103), .inr (.inl v)]) rfl ?_
  refine jw_W_ia rfl rfl (by omega) (by omega) (by omega) ?_
  show jw_W (js_S n) _ md_law 1069 [some (.inr (.inr 0)), some (.inr (.inr 13)), some (.inr (.inr 103)), some (.inl i)] [.inl (σ1 0 (i + 1)), .inr (.inr 103), .inr (.inl v)] σ1 _
  rw [e1]
  refine jw_W_n 4 (i' := 1073) (ls' := [some (.inr (.inr 0)), some (.inr (.inr 13)), some (.inr (.inr 103)), some (.inl i)]) (st' := [.inl (i + 2), .inr (.inr 0), .inl (s (i + 1)), .inr (.inr 103), .inr (.inl v)]) rfl ?_
  refine jw_W_ia rfl rfl (by omega) (by omega) (by omega) ?_
  show jw_W (js_S n) _ md_law 1074 [some (.inr (.inr 0)), some (.inr (.inr 13)), some (.inr (.inr 103)), some (.inl i)] [.inl (σ1 0 (i + 2)), .inl (s (i + 1)), .inr (.inr 103), .inr (.inl v)] σ1 _
  rw [e1]
  refine jw_W_n 4 (i' := 1078) (ls' := [some (.inr (.inr 0)), some (.inr (.inr 13)), some (.inr (.inr 103)), some (.inl i)]) (st' := [.inl (i + 3), .inr (.inr 0), .inl (s (i + 2)), .inl (s (i + 1)), .inr (.inr 103), .inr (.inl v)]) rfl ?_
  refine jw_W_ia rfl rfl (by omega) (by omega) (by omega) ?_
  show jw_W (js_S n) _ md_law 1079 [some (.inr (.inr 0)), some (.inr (.inr 13)), some (.inr (.inr 103)), some (.inl i)] [.inl (σ1 0 (i + 3)), .inl (s (i + 2)), .inl (s (i + 1)), .inr (.inr 103), .inr (.inl v)] σ1 _
  rw [e1]
  refine jw_W_n 4 (i' := 1083) (ls' := [some (.inr (.inr 0)), some (.inr (.inr 13)), some (.inr (.inr 103)), some (.inl i)]) (st' := [.inl (i + 4), .inr (.inr 0), .inl (s (i + 3)), .inl (s (i + 2)), .inl (s (i + 1)), .inr (.inr 103), .inr (.inl v)]) rfl ?_
  refine jw_W_ia rfl rfl (by omega) (by omega) (by omega) ?_
  show jw_W (js_S n) _ md_law 1084 [some (.inr (.inr 0)), some (.inr (.inr 13)), some (.inr (.inr 103)), some (.inl i)] [.inl (σ1 0 (i + 4)), .inl (s (i + 3)), .inl (s (i + 2)), .inl (s (i + 1)), .inr (.inr 103), .inr (.inl v)] σ1 _
  rw [e1]
  refine jw_W_n 4 (i' := 1088) (ls' := [some (.inr (.inr 0)), some (.inr (.inr 13)), some (.inr (.inr 103)), some (.inl i)]) (st' := [.inl (i + 5), .inr (.inr 0), .inl (s (i + 4)), .inl (s (i + 3)), .inl (s (i + 2)), .inl (s (i + 1)), .inr (.inr 103), .inr (.inl v)]) rfl ?_
  refine jw_W_ia rfl rfl (by omega) (by omega) (by omega) ?_
  show jw_W (js_S n) _ md_law 1089 [some (.inr (.inr 0)), some (.inr (.inr 13)), some (.inr (.inr 103)), some (.inl i)] [.inl (σ1 0 (i + 5)), .inl (s (i + 4)), .inl (s (i + 3)), .inl (s (i + 2)), .inl (s (i + 1)), .inr (.inr 103), .inr (.inl v)] σ1 _
  rw [e1]
  refine jw_W_call (as := [.inr (.inr 103), .inl (s (i + 1)), .inl (s (i + 2)), .inl (s (i + 3)), .inl (s (i + 4)), .inl (s (i + 5))]) (rest := [.inr (.inl v)]) rfl rfl rfl rfl (Nat.le_of_ble_eq_true rfl) (.inr rfl) hT (by omega) ?_ rfl
  rintro r1 σ2 ⟨rfl, hI2⟩
  show jw_W (js_S n) _ md_law 1090 [some (.inr (.inr 0)), some (.inr (.inr 13)), some (.inr (.inr 103)), some (.inl i)] [.inr (.inl v), .inr (.inl v)] σ2 _
  exact jv_W_el rfl rfl (next σ2 hI2)
set_option maxRecDepth 100000 in
theorem jv_o33 {n : Nat} {s : Int → Int} {σ : jw_H} {Q : Option jw_V → jw_H → Prop} (hI : jv_I n s σ) (hs : ∀ j, jw_rg (s j)) {i : Int} (i0 : 0 ≤ i) (i1 : i + 6 ≤ n) (hn : (n : Int) ≤ 3072) (next : ∀ σ', jv_I n s σ' → jw_W (js_S n) 32 md_law 1243 (jv_ls i) [] σ' Q) : jw_W (js_S n) 32 md_law 1094 (jv_ls i) [] σ Q := by
  obtain ⟨o, C, hJ⟩ := hI
  have e0 : σ 0 = s := hJ.2.2.2.2.2.2
  refine jw_W_n 5 (i' := 1099) (ls' := [some (.inr (.inr 0)), some (.inr (.inr 13)), some (.inr (.inr 103)), some (.inl i)]) (st' := [.inl (i + 1), .inr (.inr 0), .inr (.inr 13)]) rfl ?_
  refine jw_W_ia rfl rfl (by omega) (by omega) (by omega) ?_
  show jw_W (js_S n) _ md_law 1100 [some (.inr (.inr 0)), some (.inr (.inr 13)), some (.inr (.inr 103)), some (.inl i)] [.inl (σ 0 (i + 1)), .inr (.inr 13)] σ _
  rw [e0]
  refine jw_W_n 4 (i' := 1104) (ls' := [some (.inr (.inr 0)), some (.inr (.inr 13)), some (.inr (.inr 103)), some (.inl i)]) (st' := [.inl (i + 2), .inr (.inr 0), .inl (s (i + 1)), .inr (.inr 13)]) rfl ?_
  refine jw_W_ia rfl rfl (by omega) (by omega) (by omega) ?_
  show jw_W (js_S n) _ md_law 1105 [some (.inr (.inr 0)), some (.inr (.inr 13)), some (.inr (.inr 103)), some (.inl i)] [.inl (σ 0 (i + 2)), .inl (s (i + 1)), .inr (.inr 13)] σ _
  rw [e0]
  refine jw_W_n 4 (i' := 1109) (ls' := [some (.inr (.inr 0)), some (.inr (.inr 13)), some (.inr (.inr 103)), some (.inl i)]) (st' := [.inl (i + 3), .inr (.inr 0), .inl (s (i + 2)), .inl (s (i + 1)), .inr (.inr 13)]) rfl ?_
  refine jw_W_ia rfl rfl (by omega) (by omega) (by omega) ?_
  show jw_W (js_S n) _ md_law 1110 [some (.inr (.inr 0)), some (.inr (.inr 13)), some (.inr (.inr 103)), some (.inl i)] [.inl (σ 0 (i + 3)), .inl (s (i + 2)), .inl (s (i + 1)), .inr (.inr 13)] σ _
  rw [e0]
  refine jw_W_n 4 (i' := 1114) (ls' := [some (.inr (.inr 0)), some (.inr (.inr 13)), some (.inr (.inr 103)), some (.inl i)]) (st' := [.inl (i + 4), .inr (.inr 0), .inl (s (i + 3)), .inl (s (i + 2)), .inl (s (i + 1)), .inr (.inr 13)]) rfl ?_
  refine jw_W_ia rfl rfl (by omega) (by omega) (by omega) ?_
  show jw_W (js_S n) _ md_law 1115 [some (.inr (.inr 0)), some (.inr (.inr 13)), some (.inr (.inr 103)), some (.inl i)] [.inl (σ 0 (i + 4)), .inl (s (i + 3)), .inl (s (i + 2)), .inl (s (i + 1)), .inr (.inr 13)] σ _
  rw [e0]
  refine jw_W_n 4 (i' := 1119) (ls' := [some (.inr (.inr 0)), some (.inr (.inr 13)), some (.inr (.inr 103)), some (.inl i)]) (st' := [.inl (i + 5), .inr (.inr 0), .inl (s (i + 4)), .inl (s (i + 3)), .inl (s (i + 2)), .inl (s (i + 1)), .inr (.inr 13)]) rfl ?_
  refine jw_W_ia rfl rfl (by omega) (by omega) (by omega) ?_
  show jw_W (js_S n) _ md_law 1120 [some (.inr (.inr 0)), some (.inr (.inr 13)), some (.inr (.inr 103)), some (.inl i)] [.inl (σ 0 (i + 5)), .inl (s (i + 4)), .inl (s (i + 3)), .inl (s (i + 2)), .inl (s (i + 1)), .inr (.inr 13)] σ _
  rw [e0]
  refine jw_W_call (as := [.inr (.inr 13), .inl (s (i + 1)), .inl (s (i + 2)), .inl (s (i + 3)), .inl (s (i + 4)), .inl (s (i + 5))]) (rest := []) rfl rfl rfl rfl (Nat.le_of_ble_eq_true rfl) (.inr rfl) (jv_walk hJ (hs _) (hs _) (hs _) (hs _) (hs _)) (by omega) ?_ rfl
  rintro r1 σ1 ⟨v, rfl, e1, hT⟩
  show jw_W (js_S n) _ md_law 1121 [some (.inr (.inr 0)), some (.inr (.inr 13)), some (.inr (.inr 103)), some (.inl i)] [.inl v] σ1 _
  refine jw_W_n 5 (i' := 1126) (ls' := [some (.inr (.inr 0)), some (.inr (.inr 13)), some (.inr (.inr 103)), some (.inl i)]) (st' := [.inl (i + 1), .inr (.inr 0), .inr (.inr 103), .inl v]) rfl ?_
  refine jw_W_ia rfl rfl (by omega) (by omega) (by omega) ?_
  show jw_W (js_S n) _ md_law 1127 [some (.inr (.inr 0)), some (.inr (.inr 13)), some (.inr (.inr 103)), some (.inl i)] [.inl (σ1 0 (i + 1)), .inr (.inr 103), .inl v] σ1 _
  rw [e1]
  refine jw_W_n 4 (i' := 1131) (ls' := [some (.inr (.inr 0)), some (.inr (.inr 13)), some (.inr (.inr 103)), some (.inl i)]) (st' := [.inl (i + 2), .inr (.inr 0), .inl (s (i + 1)), .inr (.inr 103), .inl v]) rfl ?_
  refine jw_W_ia rfl rfl (by omega) (by omega) (by omega) ?_
  show jw_W (js_S n) _ md_law 1132 [some (.inr (.inr 0)), some (.inr (.inr 13)), some (.inr (.inr 103)), some (.inl i)] [.inl (σ1 0 (i + 2)), .inl (s (i + 1)), .inr (.inr 103), .inl v] σ1 _
  rw [e1]
  refine jw_W_n 4 (i' := 1136) (ls' := [some (.inr (.inr 0)), some (.inr (.inr 13)), some (.inr (.inr 103)), some (.inl i)]) (st' := [.inl (i + 3), .inr (.inr 0), .inl (s (i + 2)), .inl (s (i + 1)), .inr (.inr 103), .inl v]) rfl ?_
  refine jw_W_ia rfl rfl (by omega) (by omega) (by omega) ?_
  show jw_W (js_S n) _ md_law 1137 [some (.inr (.inr 0)), some (.inr (.inr 13)), some (.inr (.inr 103)), some (.inl i)] [.inl (σ1 0 (i + 3)), .inl (s (i + 2)), .inl (s (i + 1)), .inr (.inr 103), .inl v] σ1 _
  rw [e1]
  refine jw_W_n 4 (i' := 1141) (ls' := [some (.inr (.inr 0)), some (.inr (.inr 13)), some (.inr (.inr 103)), some (.inl i)]) (st' := [.inl (i + 4), .inr (.inr 0), .inl (s (i + 3)), .inl (s (i + 2)), .inl (s (i + 1)), .inr (.inr 103), .inl v]) rfl ?_
  refine jw_W_ia rfl rfl (by omega) (by omega) (by omega) ?_
  show jw_W (js_S n) _ md_law 1142 [some (.inr (.inr 0)), some (.inr (.inr 13)), some (.inr (.inr 103)), some (.inl i)] [.inl (σ1 0 (i + 4)), .inl (s (i + 3)), .inl (s (i + 2)), .inl (s (i + 1)), .inr (.inr 103), .inl v] σ1 _
  rw [e1]
  refine jw_W_n 4 (i' := 1146) (ls' := [some (.inr (.inr 0)), some (.inr (.inr 13)), some (.inr (.inr 103)), some (.inl i)]) (st' := [.inl (i + 5), .inr (.inr 0), .inl (s (i + 4)), .inl (s (i + 3)), .inl (s (i + 2)), .inl (s (i + 1)), .inr (.inr 103), .inl v]) rfl ?_
  refine jw_W_ia rfl rfl (by omega) (by omega) (by omega) ?_
  show jw_W (js_S n) _ md_law 1147 [some (.inr (.inr 0)), some (.inr (.inr 13)), some (.inr (.inr 103)), some (.inl i)] [.inl (σ1 0 (i + 5)), .inl (s (i + 4)), .inl (s (i + 3)), .inl (s (i + 2)), .inl (s (i + 1)), .inr (.inr 103), .inl v] σ1 _
  rw [e1]
  refine jw_W_call (as := [.inr (.inr 103), .inl (s (i + 1)), .inl (s (i + 2)), .inl (s (i + 3)), .inl (s (i + 4)), .inl (s (i + 5))]) (rest := [.inl v]) rfl rfl rfl rfl (Nat.le_of_ble_eq_true rfl) (.inr rfl) hT (by omega) ?_ rfl
  rintro r1 σ2 ⟨rfl, hI2⟩
  show jw_W (js_S n) _ md_law 1148 [some (.inr (.inr 0)), some (.inr (.inr 13)), some (.inr (.inr 103)), some (.inl i)] [.inl v, .inl v] σ2 _
  exact jv_W_ei rfl (next σ2 hI2)
set_option maxRecDepth 100000 in
theorem jv_o34 {n : Nat} {s : Int → Int} {σ : jw_H} {Q : Option jw_V → jw_H → Prop} (hI : jv_I n s σ) (hs : ∀ j, jw_rg (s j)) {i : Int} (i0 : 0 ≤ i) (i1 : i + 6 ≤ n) (hn : (n : Int) ≤ 3072) (next : ∀ σ', jv_I n s σ' → jw_W (js_S n) 32 md_law 1243 (jv_ls i) [] σ' Q) : jw_W (js_S n) 32 md_law 1151 (jv_ls i) [] σ Q := by
  obtain ⟨o, C, hJ⟩ := hI
  have e0 : σ 0 = s := hJ.2.2.2.2.2.2
  refine jw_W_n 5 (i' := 1156) (ls' := [some (.inr (.inr 0)), some (.inr (.inr 13)), some (.inr (.inr 103)), some (.inl i)]) (st' := [.inl (i + 1), .inr (.inr 0), .inr (.inr 13)]) rfl ?_
  refine jw_W_ia rfl rfl (by omega) (by omega) (by omega) ?_
  show jw_W (js_S n) _ md_law 1157 [some (.inr (.inr 0)), some (.inr (.inr 13)), some (.inr (.inr 103)), some (.inl i)] [.inl (σ 0 (i + 1)), .inr (.inr 13)] σ _
  rw [e0]
  refine jw_W_call (as := [.inr (.inr 13), .inl (s (i + 1))]) (rest := []) rfl rfl rfl rfl (Nat.le_of_ble_eq_true rfl) (.inr rfl) (jv_chosen hJ (hs _)) (by omega) ?_ rfl
  rintro r1 σ1 ⟨v, rfl, e1, hT⟩
  show jw_W (js_S n) _ md_law 1158 [some (.inr (.inr 0)), some (.inr (.inr 13)), some (.inr (.inr 103)), some (.inl i)] [.inl v] σ1 _
  refine jw_W_n 5 (i' := 1163) (ls' := [some (.inr (.inr 0)), some (.inr (.inr 13)), some (.inr (.inr 103)), some (.inl i)]) (st' := [.inl (i + 1), .inr (.inr 0), .inr (.inr 103), .inl v]) rfl ?_
  refine jw_W_ia rfl rfl (by omega) (by omega) (by omega) ?_
  show jw_W (js_S n) _ md_law 1164 [some (.inr (.inr 0)), some (.inr (.inr 13)), some (.inr (.inr 103)), some (.inl i)] [.inl (σ1 0 (i + 1)), .inr (.inr 103), .inl v] σ1 _
  rw [e1]
  refine jw_W_call (as := [.inr (.inr 103), .inl (s (i + 1))]) (rest := [.inl v]) rfl rfl rfl rfl (Nat.le_of_ble_eq_true rfl) (.inr rfl) hT (by omega) ?_ rfl
  rintro r1 σ2 ⟨rfl, hI2⟩
  show jw_W (js_S n) _ md_law 1165 [some (.inr (.inr 0)), some (.inr (.inr 13)), some (.inr (.inr 103)), some (.inl i)] [.inl v, .inl v] σ2 _
  exact jv_W_ei rfl (next σ2 hI2)
set_option maxRecDepth 100000 in
theorem jv_o35 {n : Nat} {s : Int → Int} {σ : jw_H} {Q : Option jw_V → jw_H → Prop} (hI : jv_I n s σ) (hs : ∀ j, jw_rg (s j)) {i : Int} (i0 : 0 ≤ i) (i1 : i + 6 ≤ n) (hn : (n : Int) ≤ 3072) (next : ∀ σ', jv_I n s σ' → jw_W (js_S n) 32 md_law 1243 (jv_ls i) [] σ' Q) : jw_W (js_S n) 32 md_law 1168 (jv_ls i) [] σ Q := by
  obtain ⟨o, C, hJ⟩ := hI
  have e0 : σ 0 = s := hJ.2.2.2.2.2.2
  refine jw_W_n 5 (i' := 1173) (ls' := [some (.inr (.inr 0)), some (.inr (.inr 13)), some (.inr (.inr 103)), some (.inl i)]) (st' := [.inl (i + 1), .inr (.inr 0), .inr (.inr 13)]) rfl ?_
  refine jw_W_ia rfl rfl (by omega) (by omega) (by omega) ?_
  show jw_W (js_S n) _ md_law 1174 [some (.inr (.inr 0)), some (.inr (.inr 13)), some (.inr (.inr 103)), some (.inl i)] [.inl (σ 0 (i + 1)), .inr (.inr 13)] σ _
  rw [e0]
  refine jw_W_n 4 (i' := 1178) (ls' := [some (.inr (.inr 0)), some (.inr (.inr 13)), some (.inr (.inr 103)), some (.inl i)]) (st' := [.inl (i + 2), .inr (.inr 0), .inl (s (i + 1)), .inr (.inr 13)]) rfl ?_
  refine jw_W_ia rfl rfl (by omega) (by omega) (by omega) ?_
  show jw_W (js_S n) _ md_law 1179 [some (.inr (.inr 0)), some (.inr (.inr 13)), some (.inr (.inr 103)), some (.inl i)] [.inl (σ 0 (i + 2)), .inl (s (i + 1)), .inr (.inr 13)] σ _
  rw [e0]
  refine jw_W_call (as := [.inr (.inr 13), .inl (s (i + 1)), .inl (s (i + 2))]) (rest := []) rfl rfl rfl rfl (Nat.le_of_ble_eq_true rfl) (.inr rfl) (jv_spelt hJ (hs _) (hs _)) (by omega) ?_ rfl
  rintro r1 σ1 ⟨v, rfl, e1, hT⟩
  show jw_W (js_S n) _ md_law 1180 [some (.inr (.inr 0)), some (.inr (.inr 13)), some (.inr (.inr 103)), some (.inl i)] [.inl v] σ1 _
  refine jw_W_n 5 (i' := 1185) (ls' := [some (.inr (.inr 0)), some (.inr (.inr 13)), some (.inr (.inr 103)), some (.inl i)]) (st' := [.inl (i + 1), .inr (.inr 0), .inr (.inr 103), .inl v]) rfl ?_
  refine jw_W_ia rfl rfl (by omega) (by omega) (by omega) ?_
  show jw_W (js_S n) _ md_law 1186 [some (.inr (.inr 0)), some (.inr (.inr 13)), some (.inr (.inr 103)), some (.inl i)] [.inl (σ1 0 (i + 1)), .inr (.inr 103), .inl v] σ1 _
  rw [e1]
  refine jw_W_n 4 (i' := 1190) (ls' := [some (.inr (.inr 0)), some (.inr (.inr 13)), some (.inr (.inr 103)), some (.inl i)]) (st' := [.inl (i + 2), .inr (.inr 0), .inl (s (i + 1)), .inr (.inr 103), .inl v]) rfl ?_
  refine jw_W_ia rfl rfl (by omega) (by omega) (by omega) ?_
  show jw_W (js_S n) _ md_law 1191 [some (.inr (.inr 0)), some (.inr (.inr 13)), some (.inr (.inr 103)), some (.inl i)] [.inl (σ1 0 (i + 2)), .inl (s (i + 1)), .inr (.inr 103), .inl v] σ1 _
  rw [e1]
  refine jw_W_call (as := [.inr (.inr 103), .inl (s (i + 1)), .inl (s (i + 2))]) (rest := [.inl v]) rfl rfl rfl rfl (Nat.le_of_ble_eq_true rfl) (.inr rfl) hT (by omega) ?_ rfl
  rintro r1 σ2 ⟨rfl, hI2⟩
  show jw_W (js_S n) _ md_law 1192 [some (.inr (.inr 0)), some (.inr (.inr 13)), some (.inr (.inr 103)), some (.inl i)] [.inl v, .inl v] σ2 _
  exact jv_W_ei rfl (next σ2 hI2)
set_option maxRecDepth 100000 in
theorem jv_o36 {n : Nat} {s : Int → Int} {σ : jw_H} {Q : Option jw_V → jw_H → Prop} (hI : jv_I n s σ) (hs : ∀ j, jw_rg (s j)) {i : Int} (i0 : 0 ≤ i) (i1 : i + 6 ≤ n) (hn : (n : Int) ≤ 3072) (next : ∀ σ', jv_I n s σ' → jw_W (js_S n) 32 md_law 1243 (jv_ls i) [] σ' Q) : jw_W (js_S n) 32 md_law 1195 (jv_ls i) [] σ Q := by
  obtain ⟨o, C, hJ⟩ := hI
  have e0 : σ 0 = s := hJ.2.2.2.2.2.2
  refine jw_W_n 1 (i' := 1196) (ls' := [some (.inr (.inr 0)), some (.inr (.inr 13)), some (.inr (.inr 103)), some (.inl i)]) (st' := [.inr (.inr 13)]) rfl ?_
  refine jw_W_call (as := [.inr (.inr 13)]) (rest := []) rfl rfl rfl rfl (Nat.le_of_ble_eq_true rfl) (.inr rfl) (jv_keep hJ ) (by omega) ?_ rfl
  rintro r1 σ1 ⟨v, rfl, e1, hT⟩
  show jw_W (js_S n) _ md_law 1197 [some (.inr (.inr 0)), some (.inr (.inr 13)), some (.inr (.inr 103)), some (.inl i)] [.inl v] σ1 _
  refine jw_W_n 1 (i' := 1198) (ls' := [some (.inr (.inr 0)), some (.inr (.inr 13)), some (.inr (.inr 103)), some (.inl i)]) (st' := [.inr (.inr 103), .inl v]) rfl ?_
  refine jw_W_call (as := [.inr (.inr 103)]) (rest := [.inl v]) rfl rfl rfl rfl (Nat.le_of_ble_eq_true rfl) (.inr rfl) hT (by omega) ?_ rfl
  rintro r1 σ2 ⟨rfl, hI2⟩
  show jw_W (js_S n) _ md_law 1199 [some (.inr (.inr 0)), some (.inr (.inr 13)), some (.inr (.inr 103)), some (.inl i)] [.inl v, .inl v] σ2 _
  exact jv_W_ei rfl (next σ2 hI2)
set_option maxRecDepth 100000 in
theorem jv_o37 {n : Nat} {s : Int → Int} {σ : jw_H} {Q : Option jw_V → jw_H → Prop} (hI : jv_I n s σ) (hs : ∀ j, jw_rg (s j)) {i : Int} (i0 : 0 ≤ i) (i1 : i + 6 ≤ n) (hn : (n : Int) ≤ 3072) (next : ∀ σ', jv_I n s σ' → jw_W (js_S n) 32 md_law 1243 (jv_ls i) [] σ' Q) : jw_W (js_S n) 32 md_law 1202 (jv_ls i) [] σ Q := by
  obtain ⟨o, C, hJ⟩ := hI
  have e0 : σ 0 = s := hJ.2.2.2.2.2.2
  refine jw_W_n 1 (i' := 1203) (ls' := [some (.inr (.inr 0)), some (.inr (.inr 13)), some (.inr (.inr 103)), some (.inl i)]) (st' := [.inr (.inr 13)]) rfl ?_
  refine jw_W_call (as := [.inr (.inr 13)]) (rest := []) rfl rfl rfl rfl (Nat.le_of_ble_eq_true rfl) (.inr rfl) (jv_undo hJ ) (by omega) ?_ rfl
  rintro r1 σ1 ⟨v, rfl, e1, hT⟩
  show jw_W (js_S n) _ md_law 1204 [some (.inr (.inr 0)), some (.inr (.inr 13)), some (.inr (.inr 103)), some (.inl i)] [.inl v] σ1 _
  refine jw_W_n 1 (i' := 1205) (ls' := [some (.inr (.inr 0)), some (.inr (.inr 13)), some (.inr (.inr 103)), some (.inl i)]) (st' := [.inr (.inr 103), .inl v]) rfl ?_
  refine jw_W_call (as := [.inr (.inr 103)]) (rest := [.inl v]) rfl rfl rfl rfl (Nat.le_of_ble_eq_true rfl) (.inr rfl) hT (by omega) ?_ rfl
  rintro r1 σ2 ⟨rfl, hI2⟩
  show jw_W (js_S n) _ md_law 1206 [some (.inr (.inr 0)), some (.inr (.inr 13)), some (.inr (.inr 103)), some (.inl i)] [.inl v, .inl v] σ2 _
  exact jv_W_ei rfl (next σ2 hI2)
set_option maxRecDepth 100000 in
theorem jv_o38 {n : Nat} {s : Int → Int} {σ : jw_H} {Q : Option jw_V → jw_H → Prop} (hI : jv_I n s σ) (hs : ∀ j, jw_rg (s j)) {i : Int} (i0 : 0 ≤ i) (i1 : i + 6 ≤ n) (hn : (n : Int) ≤ 3072) (next : ∀ σ', jv_I n s σ' → jw_W (js_S n) 32 md_law 1243 (jv_ls i) [] σ' Q) : jw_W (js_S n) 32 md_law 1209 (jv_ls i) [] σ Q := by
  obtain ⟨o, C, hJ⟩ := hI
  have e0 : σ 0 = s := hJ.2.2.2.2.2.2
  refine jw_W_n 5 (i' := 1214) (ls' := [some (.inr (.inr 0)), some (.inr (.inr 13)), some (.inr (.inr 103)), some (.inl i)]) (st' := [.inl (i + 1), .inr (.inr 0), .inr (.inr 13)]) rfl ?_
  refine jw_W_ia rfl rfl (by omega) (by omega) (by omega) ?_
  show jw_W (js_S n) _ md_law 1215 [some (.inr (.inr 0)), some (.inr (.inr 13)), some (.inr (.inr 103)), some (.inl i)] [.inl (σ 0 (i + 1)), .inr (.inr 13)] σ _
  rw [e0]
  refine jw_W_call (as := [.inr (.inr 13), .inl (s (i + 1))]) (rest := []) rfl rfl rfl rfl (Nat.le_of_ble_eq_true rfl) (.inr rfl) (jv_check hJ (hs _)) (by omega) ?_ rfl
  rintro r1 σ1 ⟨v, rfl, e1, hT⟩
  show jw_W (js_S n) _ md_law 1216 [some (.inr (.inr 0)), some (.inr (.inr 13)), some (.inr (.inr 103)), some (.inl i)] [.inl v] σ1 _
  refine jw_W_n 5 (i' := 1221) (ls' := [some (.inr (.inr 0)), some (.inr (.inr 13)), some (.inr (.inr 103)), some (.inl i)]) (st' := [.inl (i + 1), .inr (.inr 0), .inr (.inr 103), .inl v]) rfl ?_
  refine jw_W_ia rfl rfl (by omega) (by omega) (by omega) ?_
  show jw_W (js_S n) _ md_law 1222 [some (.inr (.inr 0)), some (.inr (.inr 13)), some (.inr (.inr 103)), some (.inl i)] [.inl (σ1 0 (i + 1)), .inr (.inr 103), .inl v] σ1 _
  rw [e1]
  refine jw_W_call (as := [.inr (.inr 103), .inl (s (i + 1))]) (rest := [.inl v]) rfl rfl rfl rfl (Nat.le_of_ble_eq_true rfl) (.inr rfl) hT (by omega) ?_ rfl
  rintro r1 σ2 ⟨rfl, hI2⟩
  show jw_W (js_S n) _ md_law 1223 [some (.inr (.inr 0)), some (.inr (.inr 13)), some (.inr (.inr 103)), some (.inl i)] [.inl v, .inl v] σ2 _
  exact jv_W_ei rfl (next σ2 hI2)
set_option maxRecDepth 100000 in
theorem jv_o39 {n : Nat} {s : Int → Int} {σ : jw_H} {Q : Option jw_V → jw_H → Prop} (hI : jv_I n s σ) (hs : ∀ j, jw_rg (s j)) {i : Int} (i0 : 0 ≤ i) (i1 : i + 6 ≤ n) (hn : (n : Int) ≤ 3072) (next : ∀ σ', jv_I n s σ' → jw_W (js_S n) 32 md_law 1243 (jv_ls i) [] σ' Q) : jw_W (js_S n) 32 md_law 1226 (jv_ls i) [] σ Q := by
  obtain ⟨o, C, hJ⟩ := hI
  have e0 : σ 0 = s := hJ.2.2.2.2.2.2
  refine jw_W_n 5 (i' := 1231) (ls' := [some (.inr (.inr 0)), some (.inr (.inr 13)), some (.inr (.inr 103)), some (.inl i)]) (st' := [.inl (i + 1), .inr (.inr 0), .inr (.inr 13)]) rfl ?_
  refine jw_W_ia rfl rfl (by omega) (by omega) (by omega) ?_
  show jw_W (js_S n) _ md_law 1232 [some (.inr (.inr 0)), some (.inr (.inr 13)), some (.inr (.inr 103)), some (.inl i)] [.inl (σ 0 (i + 1)), .inr (.inr 13)] σ _
  rw [e0]
  refine jw_W_call (as := [.inr (.inr 13), .inl (s (i + 1))]) (rest := []) rfl rfl rfl rfl (Nat.le_of_ble_eq_true rfl) (.inr rfl) (jv_count hJ (hs _)) (by omega) ?_ rfl
  rintro r1 σ1 ⟨v, rfl, e1, hT⟩
  show jw_W (js_S n) _ md_law 1233 [some (.inr (.inr 0)), some (.inr (.inr 13)), some (.inr (.inr 103)), some (.inl i)] [.inl v] σ1 _
  refine jw_W_n 5 (i' := 1238) (ls' := [some (.inr (.inr 0)), some (.inr (.inr 13)), some (.inr (.inr 103)), some (.inl i)]) (st' := [.inl (i + 1), .inr (.inr 0), .inr (.inr 103), .inl v]) rfl ?_
  refine jw_W_ia rfl rfl (by omega) (by omega) (by omega) ?_
  show jw_W (js_S n) _ md_law 1239 [some (.inr (.inr 0)), some (.inr (.inr 13)), some (.inr (.inr 103)), some (.inl i)] [.inl (σ1 0 (i + 1)), .inr (.inr 103), .inl v] σ1 _
  rw [e1]
  refine jw_W_call (as := [.inr (.inr 103), .inl (s (i + 1))]) (rest := [.inl v]) rfl rfl rfl rfl (Nat.le_of_ble_eq_true rfl) (.inr rfl) hT (by omega) ?_ rfl
  rintro r1 σ2 ⟨rfl, hI2⟩
  show jw_W (js_S n) _ md_law 1240 [some (.inr (.inr 0)), some (.inr (.inr 13)), some (.inr (.inr 103)), some (.inl i)] [.inl v, .inl v] σ2 _
  exact jv_W_ei rfl (next σ2 hI2)
set_option maxRecDepth 100000 in
theorem jv_loop {n : Nat} {s : Int → Int} (hs : ∀ j, jw_rg (s j)) (hn : (n : Int) ≤ 3072) : ∀ (f : Nat) {i : Int} {σ : jw_H}, 0 ≤ i → (n : Int) - i ≤ f → i ≤ n → jv_I n s σ → jw_W (js_S n) 32 md_law 10 (jv_ls i) [] σ (fun r _ => r = some (.inl 1))
  | f, i, σ, i0, hf, i1, hI => by
    have e0 : σ 0 = s := by
      obtain ⟨o, C, hJ⟩ := hI
      exact hJ.2.2.2.2.2.2
    have ha := jv_a63 (s i)
    have next : i + 6 ≤ n → ∀ σ', jv_I n s σ' → jw_W (js_S n) 32 md_law 1243 (jv_ls i) [] σ' (fun r _ => r = some (.inl 1)) := by
      intro h6 σ' hI'
      refine jw_W_n 2 (i' := 10) (ls' := jv_ls (i + 6)) (st' := []) rfl ?_
      match f, hf with
      | 0, hf => omega
      | f + 1, hf => exact jv_loop hs hn f (by omega) (by omega) (by omega) hI'
    refine jw_W_n 2 (i' := 12) (ls' := [some (.inr (.inr 0)), some (.inr (.inr 13)), some (.inr (.inr 103)), some (.inl i)]) (st' := [.inr (.inr 0), .inl i]) rfl ?_
    refine jw_W_al rfl rfl ?_
    show jw_W (js_S n) _ md_law 13 [some (.inr (.inr 0)), some (.inr (.inr 13)), some (.inr (.inr 103)), some (.inl i)] [.inl n, .inl i] σ _
    refine jw_W_n 2 (i' := 15) (ls' := [some (.inr (.inr 0)), some (.inr (.inr 13)), some (.inr (.inr 103)), some (.inl i)]) (st' := [.inl (n - 6), .inl i]) rfl ?_
    refine jw_W_ic rfl (by unfold jw_rg; omega) (by unfold jw_rg; omega) (fun hc1 => ?_) (fun hc1 => ?_)
    · have hc1 : i > (n - 6) := hc1
      refine jw_W_n 1 (i' := 1246) (ls' := [some (.inr (.inr 0)), some (.inr (.inr 13)), some (.inr (.inr 103)), some (.inl i)]) (st' := [.inl 1]) rfl ?_
      refine jw_W_ir rfl ?_
      exact rfl
    · have hc1 : ¬ (i > (n - 6)) := hc1
      refine jw_W_n 2 (i' := 18) (ls' := [some (.inr (.inr 0)), some (.inr (.inr 13)), some (.inr (.inr 103)), some (.inl i)]) (st' := [.inl i, .inr (.inr 0)]) rfl ?_
      refine jw_W_ia rfl rfl (by omega) (by omega) (by omega) ?_
      show jw_W (js_S n) _ md_law 19 [some (.inr (.inr 0)), some (.inr (.inr 13)), some (.inr (.inr 103)), some (.inl i)] [.inl (σ 0 i)] σ _
      rw [e0]
      refine jw_W_n 2 (i' := 21) (ls' := [some (.inr (.inr 0)), some (.inr (.inr 13)), some (.inr (.inr 103)), some (.inl i)]) (st' := [.inl (jw_and (s i) 63)]) rfl ?_
      refine jw_W_sw rfl (by have := jv_a63 (s i); unfold jw_rg; omega) rfl (fun hc2 => ?_) (fun hc2a hc2b t ht => ?_)
      · have hc2 : (jw_and (s i) 63) < 0 ∨ 39 < (jw_and (s i) 63) := hc2
        exact next (by omega) σ hI
      · rcases (show (jw_and (s i) 63) = 0 ∨ (jw_and (s i) 63) = 1 ∨ (jw_and (s i) 63) = 2 ∨ (jw_and (s i) 63) = 3 ∨ (jw_and (s i) 63) = 4 ∨ (jw_and (s i) 63) = 5 ∨ (jw_and (s i) 63) = 6 ∨ (jw_and (s i) 63) = 7 ∨ (jw_and (s i) 63) = 8 ∨ (jw_and (s i) 63) = 9 ∨ (jw_and (s i) 63) = 10 ∨ (jw_and (s i) 63) = 11 ∨ (jw_and (s i) 63) = 12 ∨ (jw_and (s i) 63) = 13 ∨ (jw_and (s i) 63) = 14 ∨ (jw_and (s i) 63) = 15 ∨ (jw_and (s i) 63) = 16 ∨ (jw_and (s i) 63) = 17 ∨ (jw_and (s i) 63) = 18 ∨ (jw_and (s i) 63) = 19 ∨ (jw_and (s i) 63) = 20 ∨ (jw_and (s i) 63) = 21 ∨ (jw_and (s i) 63) = 22 ∨ (jw_and (s i) 63) = 23 ∨ (jw_and (s i) 63) = 24 ∨ (jw_and (s i) 63) = 25 ∨ (jw_and (s i) 63) = 26 ∨ (jw_and (s i) 63) = 27 ∨ (jw_and (s i) 63) = 28 ∨ (jw_and (s i) 63) = 29 ∨ (jw_and (s i) 63) = 30 ∨ (jw_and (s i) 63) = 31 ∨ (jw_and (s i) 63) = 32 ∨ (jw_and (s i) 63) = 33 ∨ (jw_and (s i) 63) = 34 ∨ (jw_and (s i) 63) = 35 ∨ (jw_and (s i) 63) = 36 ∨ (jw_and (s i) 63) = 37 ∨ (jw_and (s i) 63) = 38 ∨ (jw_and (s i) 63) = 39 by omega) with hc2 | hc2 | hc2 | hc2 | hc2 | hc2 | hc2 | hc2 | hc2 | hc2 | hc2 | hc2 | hc2 | hc2 | hc2 | hc2 | hc2 | hc2 | hc2 | hc2 | hc2 | hc2 | hc2 | hc2 | hc2 | hc2 | hc2 | hc2 | hc2 | hc2 | hc2 | hc2 | hc2 | hc2 | hc2 | hc2 | hc2 | hc2 | hc2 | hc2
        · obtain rfl : 22 = t := by rw [hc2] at ht; exact Option.some.inj ht
          exact jv_o0 hI hs i0 (by omega) hn (next (by omega))
        · obtain rfl : 79 = t := by rw [hc2] at ht; exact Option.some.inj ht
          exact jv_o1 hI hs i0 (by omega) hn (next (by omega))
        · obtain rfl : 96 = t := by rw [hc2] at ht; exact Option.some.inj ht
          exact jv_o2 hI hs i0 (by omega) hn (next (by omega))
        · obtain rfl : 113 = t := by rw [hc2] at ht; exact Option.some.inj ht
          exact jv_o3 hI hs i0 (by omega) hn (next (by omega))
        · obtain rfl : 130 = t := by rw [hc2] at ht; exact Option.some.inj ht
          exact jv_o4 hI hs i0 (by omega) hn (next (by omega))
        · obtain rfl : 157 = t := by rw [hc2] at ht; exact Option.some.inj ht
          exact jv_o5 hI hs i0 (by omega) hn (next (by omega))
        · obtain rfl : 184 = t := by rw [hc2] at ht; exact Option.some.inj ht
          exact jv_o6 hI hs i0 (by omega) hn (next (by omega))
        · obtain rfl : 212 = t := by rw [hc2] at ht; exact Option.some.inj ht
          exact jv_o7 hI hs i0 (by omega) hn (next (by omega))
        · obtain rfl : 250 = t := by rw [hc2] at ht; exact Option.some.inj ht
          exact jv_o8 hI hs i0 (by omega) hn (next (by omega))
        · obtain rfl : 277 = t := by rw [hc2] at ht; exact Option.some.inj ht
          exact jv_o9 hI hs i0 (by omega) hn (next (by omega))
        · obtain rfl : 304 = t := by rw [hc2] at ht; exact Option.some.inj ht
          exact jv_o10 hI hs i0 (by omega) hn (next (by omega))
        · obtain rfl : 321 = t := by rw [hc2] at ht; exact Option.some.inj ht
          exact jv_o11 hI hs i0 (by omega) hn (next (by omega))
        · obtain rfl : 349 = t := by rw [hc2] at ht; exact Option.some.inj ht
          exact jv_o12 hI hs i0 (by omega) hn (next (by omega))
        · obtain rfl : 377 = t := by rw [hc2] at ht; exact Option.some.inj ht
          exact jv_o13 hI hs i0 (by omega) hn (next (by omega))
        · obtain rfl : 425 = t := by rw [hc2] at ht; exact Option.some.inj ht
          exact jv_o14 hI hs i0 (by omega) hn (next (by omega))
        · obtain rfl : 442 = t := by rw [hc2] at ht; exact Option.some.inj ht
          exact jv_o15 hI hs i0 (by omega) hn (next (by omega))
        · obtain rfl : 490 = t := by rw [hc2] at ht; exact Option.some.inj ht
          exact jv_o16 hI hs i0 (by omega) hn (next (by omega))
        · obtain rfl : 527 = t := by rw [hc2] at ht; exact Option.some.inj ht
          exact jv_o17 hI hs i0 (by omega) hn (next (by omega))
        · obtain rfl : 575 = t := by rw [hc2] at ht; exact Option.some.inj ht
          exact jv_o18 hI hs i0 (by omega) hn (next (by omega))
        · obtain rfl : 623 = t := by rw [hc2] at ht; exact Option.some.inj ht
          exact jv_o19 hI hs i0 (by omega) hn (next (by omega))
        · obtain rfl : 650 = t := by rw [hc2] at ht; exact Option.some.inj ht
          exact jv_o20 hI hs i0 (by omega) hn (next (by omega))
        · obtain rfl : 667 = t := by rw [hc2] at ht; exact Option.some.inj ht
          exact jv_o21 hI hs i0 (by omega) hn (next (by omega))
        · obtain rfl : 685 = t := by rw [hc2] at ht; exact Option.some.inj ht
          exact jv_o22 hI hs i0 (by omega) hn (next (by omega))
        · obtain rfl : 732 = t := by rw [hc2] at ht; exact Option.some.inj ht
          exact jv_o23 hI hs i0 (by omega) hn (next (by omega))
        · obtain rfl : 790 = t := by rw [hc2] at ht; exact Option.some.inj ht
          exact jv_o24 hI hs i0 (by omega) hn (next (by omega))
        · obtain rfl : 828 = t := by rw [hc2] at ht; exact Option.some.inj ht
          exact jv_o25 hI hs i0 (by omega) hn (next (by omega))
        · obtain rfl : 864 = t := by rw [hc2] at ht; exact Option.some.inj ht
          exact jv_o26 hI hs i0 (by omega) hn (next (by omega))
        · obtain rfl : 909 = t := by rw [hc2] at ht; exact Option.some.inj ht
          exact jv_o27 hI hs i0 (by omega) hn (next (by omega))
        · obtain rfl : 936 = t := by rw [hc2] at ht; exact Option.some.inj ht
          exact jv_o28 hI hs i0 (by omega) hn (next (by omega))
        · obtain rfl : 973 = t := by rw [hc2] at ht; exact Option.some.inj ht
          exact jv_o29 hI hs i0 (by omega) hn (next (by omega))
        · obtain rfl : 991 = t := by rw [hc2] at ht; exact Option.some.inj ht
          exact jv_o30 hI hs i0 (by omega) hn (next (by omega))
        · obtain rfl : 1009 = t := by rw [hc2] at ht; exact Option.some.inj ht
          exact jv_o31 hI hs i0 (by omega) hn (next (by omega))
        · obtain rfl : 1036 = t := by rw [hc2] at ht; exact Option.some.inj ht
          exact jv_o32 hI hs i0 (by omega) hn (next (by omega))
        · obtain rfl : 1094 = t := by rw [hc2] at ht; exact Option.some.inj ht
          exact jv_o33 hI hs i0 (by omega) hn (next (by omega))
        · obtain rfl : 1151 = t := by rw [hc2] at ht; exact Option.some.inj ht
          exact jv_o34 hI hs i0 (by omega) hn (next (by omega))
        · obtain rfl : 1168 = t := by rw [hc2] at ht; exact Option.some.inj ht
          exact jv_o35 hI hs i0 (by omega) hn (next (by omega))
        · obtain rfl : 1195 = t := by rw [hc2] at ht; exact Option.some.inj ht
          exact jv_o36 hI hs i0 (by omega) hn (next (by omega))
        · obtain rfl : 1202 = t := by rw [hc2] at ht; exact Option.some.inj ht
          exact jv_o37 hI hs i0 (by omega) hn (next (by omega))
        · obtain rfl : 1209 = t := by rw [hc2] at ht; exact Option.some.inj ht
          exact jv_o38 hI hs i0 (by omega) hn (next (by omega))
        · obtain rfl : 1226 = t := by rw [hc2] at ht; exact Option.some.inj ht
          exact jv_o39 hI hs i0 (by omega) hn (next (by omega))

/-! ===== the reference's edges ===== -/
theorem jm_isEff2 {n : Nat} {σ : jw_H} {T x y z : Int} {C : List (ge_R × Int)} (hP : jm_Pb σ) (hN : jm_Ns σ) (hK : jm_kn σ C) (T1 : T ≤ 262440) (hp : ge_F (jm_RR (σ 103 3) (jm_bA σ)) (x, y, z, T)) : jw_T (js_S n) 6 252 [.inr (.inr 103), .inr (.inl x), .inr (.inl y), .inr (.inl z), .inr (.inl T)] σ (fun r σ' => (r = some (.inl 1) ∧ jm_fe σ σ' ∧ ¬ jm_Ef σ (x, y, z, T)) ∨ (r = some (.inl 0) ∧ jm_fe σ σ' ∧ jm_Ef σ (x, y, z, T))) := by
  refine jw_T_mono (jm_isEfficient hP hN hK T1 hp) (Nat.le_refl _) ?_
  rintro r σ' ⟨v, rfl, h, ⟨rfl, e⟩ | ⟨rfl, e⟩⟩
  · exact .inl ⟨rfl, h, e⟩
  · exact .inr ⟨rfl, h, e⟩
theorem jm_isWeak2 {n : Nat} {σ : jw_H} {T x y z i : Int} {C : List (ge_R × Int)} (hP : jm_Pb σ) (hN : jm_Ns σ) (hK : jm_kn σ C) (T1 : T ≤ 262440) (hp : ge_F (jm_RR (σ 103 3) (jm_bA σ)) (x, y, z, T)) (i0 : 0 ≤ i) (i1 : i < 20) (c1 : σ 132 i = x) (c2 : σ 133 i = y) (c3 : σ 134 i = z) (c4 : σ 135 i = T) : jw_T (js_S n) 6 253 [.inr (.inr 103), .inl i] σ (fun r σ' => (r = some (.inl 1) ∧ jm_fe σ σ' ∧ jm_Wk σ (x, y, z, T)) ∨ (r = some (.inl 0) ∧ jm_fe σ σ' ∧ ¬ jm_Wk σ (x, y, z, T))) := by
  refine jw_T_mono (jm_isWeak hP hN hK T1 hp i0 i1 c1 c2 c3 c4) (Nat.le_refl _) ?_
  rintro r σ' ⟨v, rfl, h, ⟨rfl, e⟩ | ⟨rfl, e⟩⟩
  · exact .inl ⟨rfl, h, e⟩
  · exact .inr ⟨rfl, h, e⟩
/-- masks of corners -/
def jm_mk (m : Int) (σ : jw_H) (o : Nat) : Prop := ∀ a, 0 ≤ a → a < m → 0 ≤ σ o a ∧ σ o a ≤ 1048575
def jm_nx (σ : jw_H) (o : Nat) (a c : Int) : Prop := jb_in (σ o a) c.toNat
def jm_so (σ : jw_H) (o : Nat) (i b : Int) : jw_H := jw_up σ o i (jw_or (σ o i) (jw_shl 1 b))
theorem jm_orb {s b : Int} (hs : 0 ≤ s ∧ s ≤ 1048575) (b0 : 0 ≤ b) (b1 : b < 20) : (0 ≤ jw_or s (jw_shl 1 b) ∧ jw_or s (jw_shl 1 b) ≤ 1048575) ∧ ∀ c : Nat, jb_in (jw_or s (jw_shl 1 b)) c ↔ jb_in s c ∨ (c : Int) = b := by
  obtain ⟨o, ho⟩ := jm_one_in b0 b1
  refine ⟨?_, fun c => ?_⟩
  · generalize jw_shl 1 b = w at o
    rw [jb_or (by omega) (by omega) (by omega) (by omega)]
    have := Nat.or_lt_two_pow (n := 20) (x := s.toNat) (y := w.toNat) (by omega) (by omega)
    rw [show (2 : Nat) ^ 20 = 1048576 by decide] at this
    generalize s.toNat ||| w.toNat = z at this ⊢
    omega
  · rw [jm_or_in hs o, ho]
theorem jm_so_mk {m : Int} {σ : jw_H} {o : Nat} {i b : Int} (h : jm_mk m σ o) (i0 : 0 ≤ i) (i1 : i < m) (b0 : 0 ≤ b) (b1 : b < 20) : jm_mk m (jm_so σ o i b) o := fun a a0 a1 => by
  unfold jm_so
  by_cases e : a = i
  · rw [e, jw_up_eq]
    exact (jm_orb (h i i0 i1) b0 b1).1
  · rw [jw_up_ne _ (by omega)]
    exact h a a0 a1
theorem jm_so_nx {m : Int} {σ : jw_H} {o : Nat} {i b : Int} (h : jm_mk m σ o) (i0 : 0 ≤ i) (i1 : i < m) (b0 : 0 ≤ b) (b1 : b < 20) {a c : Int} (c0 : 0 ≤ c) : jm_nx (jm_so σ o i b) o a c ↔ jm_nx σ o a c ∨ (a = i ∧ c = b) := by
  unfold jm_so jm_nx
  by_cases e : a = i
  · rw [e, jw_up_eq, (jm_orb (h i i0 i1) b0 b1).2, Int.toNat_of_nonneg c0]
    simp only [true_and]
  · rw [jw_up_ne _ (by omega)]
    constructor
    · exact .inl
    · rintro (h | h)
      · exact h
      · exact absurd h.1 e
theorem jm_so_o {σ : jw_H} {o o' : Nat} {i b : Int} (h : o' ≠ o) : jm_so σ o i b o' = σ o' := jw_up_out _ _ _ h
/-- but the body, the masks and what is known nothing is written -/
def jm_fk (σ σ' : jw_H) : Prop := (∀ o, (o < 125 ∨ (131 < o ∧ o < 137) ∨ 139 < o) → o ≠ 103 → σ' o = σ o) ∧ ∀ j, j ≠ 46 → j ≠ 57 → j ≠ 58 → j ≠ 59 → σ' 103 j = σ 103 j
theorem jm_fk_rf (σ : jw_H) : jm_fk σ σ := ⟨fun _ _ _ => rfl, fun _ _ _ _ _ => rfl⟩
theorem jm_fk_tr {σ σ1 σ2 : jw_H} (a : jm_fk σ σ1) (b : jm_fk σ1 σ2) : jm_fk σ σ2 := ⟨fun o h1 h2 => (b.1 o h1 h2).trans (a.1 o h1 h2), fun j h1 h2 h3 h4 => (b.2 j h1 h2 h3 h4).trans (a.2 j h1 h2 h3 h4)⟩
theorem jm_fr2_k {σ σ' : jw_H} (a : jm_fr2 σ σ') : jm_fk σ σ' := ⟨fun o h1 h2 => a.1 o (by omega) h2, fun j h1 _ _ _ => a.2 j h1⟩
theorem jm_fk_up {σ σ' : jw_H} {o : Nat} {j v : Int} (a : jm_fk σ σ') (ho : 137 ≤ o ∧ o ≤ 139 ∨ o = 103 ∧ 57 ≤ j ∧ j ≤ 59) : jm_fk σ (jw_up σ' o j v) := by
  refine ⟨fun o' h1 h2 => ?_, fun j' h1 h2 h3 h4 => ?_⟩
  · rw [jw_up_out _ _ _ (by omega)]
    exact a.1 o' h1 h2
  · rw [jw_up_ne _ (by omega)]
    exact a.2 j' h1 h2 h3 h4
theorem jm_bk_same {σ σ' : jw_H} {wo mo : Int} (h3 : σ' 103 3 = σ 103 3) (h5 : σ' 103 5 = σ 103 5) (o5 : σ' 105 = σ 105) (o6 : σ' 106 = σ 106) : ∀ k, jm_bk σ' wo mo k = jm_bk σ wo mo k
  | 0 => by
    have e : jm_Bs σ' = jm_Bs σ := by
      funext i
      unfold jm_Bs
      rw [o6]
    show jm_be _ _ _ = jm_be _ _ _
    rw [h3, h5, e]
  | k + 1 => by
    have ih := jm_bk_same (wo := wo) (mo := mo) h3 h5 o5 o6 k
    have e : ∀ m, jm_kr σ' (k : Int) m = jm_kr σ (k : Int) m := fun m => by
      simp only [jm_kr, jm_sg, o5]
    show (if (k : Int) = wo then _ else _) = (if (k : Int) = wo then _ else _)
    rw [ih, e]
theorem jm_fk_bA {σ σ' : jw_H} (a : jm_fk σ σ') : jm_bA σ' = jm_bA σ := by
  have e5 := a.2 5 (by omega) (by omega) (by omega) (by omega)
  unfold jm_bA
  rw [e5]
  exact jm_bk_same (a.2 3 (by omega) (by omega) (by omega) (by omega)) e5 (a.1 105 (by omega) (by omega)) (a.1 106 (by omega) (by omega)) _
theorem jm_fk_Pb {σ σ' : jw_H} (a : jm_fk σ σ') (hP : jm_Pb σ) : jm_Pb σ' := jm_Pb_fr (fun j hj => a.2 j (by omega) (by omega) (by omega) (by omega)) (a.1 104 (by omega) (by omega)) (a.1 105 (by omega) (by omega)) (a.1 106 (by omega) (by omega)) hP
theorem jm_fk_ct {σ σ' : jw_H} (a : jm_fk σ σ') (i : Int) : jm_ct σ' i = jm_ct σ i ∧ σ' 136 i = σ 136 i := by
  simp only [jm_ct, a.1 132 (by omega) (by omega), a.1 133 (by omega) (by omega), a.1 134 (by omega) (by omega), a.1 135 (by omega) (by omega), a.1 136 (by omega) (by omega)]
  exact ⟨trivial, trivial⟩
theorem jm_fk_kn {σ σ' : jw_H} {C : List (ge_R × Int)} (a : jm_fk σ σ') (h : jm_kn σ C) : jm_kn σ' C := by
  obtain ⟨⟨h1, h2⟩, h3, h4⟩ := h
  refine ⟨⟨(a.2 56 (by omega) (by omega) (by omega) (by omega)).trans h1, fun i x hx => ?_⟩, ?_, h4⟩
  · rw [(jm_fk_ct a _).1, (jm_fk_ct a _).2]
    exact h2 i x hx
  · rw [jm_fk_bA a, a.2 3 (by omega) (by omega) (by omega) (by omega)]
    exact h3
theorem jm_fk_F {σ σ' : jw_H} (a : jm_fk σ σ') : jm_F σ' = jm_F σ := by
  have e : ∀ k, jm_W σ' k = jm_W σ k := fun k => by
    simp only [jm_W, a.1 104 (by omega) (by omega)]
  simp only [jm_F, e, a.2 4 (by omega) (by omega) (by omega) (by omega)]
theorem jm_fk_Ef {σ σ' : jw_H} (a : jm_fk σ σ') (p : ge_R) : jm_Ef σ' p ↔ jm_Ef σ p := by
  unfold jm_Ef
  rw [jm_fk_bA a, jm_fk_F a, a.2 3 (by omega) (by omega) (by omega) (by omega)]
theorem jm_fk_Wk {σ σ' : jw_H} (a : jm_fk σ σ') (p : ge_R) : jm_Wk σ' p ↔ jm_Wk σ p := by
  have e : ∀ k, jm_W σ' k = jm_W σ k := fun k => by
    simp only [jm_W, a.1 104 (by omega) (by omega)]
  unfold jm_Wk jm_up1
  simp only [jm_fk_bA a, jm_fk_F a, e, a.2 3 (by omega) (by omega) (by omega) (by omega), a.2 4 (by omega) (by omega) (by omega) (by omega)]
def jm_ks (m : Int) (σ0 σ : jw_H) : Prop := jm_fk σ0 σ ∧ jm_Ns σ ∧ jm_nrm σ (jm_bA σ0) ∧ jm_mk m σ 137 ∧ jm_mk m σ 138
def jm_R (σ : jw_H) : List ge_R := jm_RR (σ 103 3) (jm_bA σ)
def jm_two (x y : ge_R) : ge_R := (x.1 + y.1, x.2.1 + y.2.1, x.2.2.1 + y.2.2.1, x.2.2.2 + y.2.2.2)
theorem jm_two_F {R : List ge_R} {x y : ge_R} (hx : ge_F R x) (hy : ge_F R y) : ge_F R (jm_two x y) := by
  refine ⟨by have := hx.1; have := hy.1; simp only [jm_two]; omega, fun r hr => ?_⟩
  have e : ge_s r (jm_two x y) = ge_s r x + ge_s r y := by
    simp only [ge_s, jm_two]
    grind
  have := hx.2 r hr
  have := hy.2 r hr
  omega
theorem jm_ks_fe {m : Int} {σ0 σ σ' : jw_H} (h : jm_ks m σ0 σ) (a : jm_fe σ σ') : jm_ks m σ0 σ' := by
  obtain ⟨h1, h2, h3, h4, h5⟩ := h
  obtain ⟨a1, a2, a3⟩ := a
  rw [jm_fk_bA h1] at a3
  refine ⟨jm_fk_tr h1 (jm_fr2_k a1), a2, a3, ?_, ?_⟩
  · unfold jm_mk
    rw [a1.1 137 (by omega) (by omega)]
    exact h4
  · unfold jm_mk
    rw [a1.1 138 (by omega) (by omega)]
    exact h5
theorem jm_ks_so {m : Int} {σ0 σ : jw_H} {o : Nat} {i b : Int} (h : jm_ks m σ0 σ) (ho : o = 137 ∨ o = 138) (i0 : 0 ≤ i) (i1 : i < m) (b0 : 0 ≤ b) (b1 : b < 20) : jm_ks m σ0 (jm_so σ o i b) := by
  obtain ⟨h1, h2, h3, h4, h5⟩ := h
  have e131 : jm_so σ o i b 131 = σ 131 := jm_so_o (by omega)
  refine ⟨jm_fk_up h1 (by omega), ?_, ?_, ?_, ?_⟩
  · unfold jm_Ns
    rw [e131]
    exact h2
  · unfold jm_nrm jm_N
    rw [e131]
    exact h3
  · rcases ho with rfl | rfl
    · exact jm_so_mk h4 i0 i1 b0 b1
    · unfold jm_mk
      rw [jm_so_o (by omega)]
      exact h4
  · rcases ho with rfl | rfl
    · unfold jm_mk
      rw [jm_so_o (by omega)]
      exact h5
    · exact jm_so_mk h5 i0 i1 b0 b1
/-- an edge more -/
def jm_add (σ σ' : jw_H) (o : Nat) (i j : Int) (P : Prop) : Prop := ∀ a c, 0 ≤ a → 0 ≤ c → (jm_nx σ' o a c ↔ jm_nx σ o a c ∨ (P ∧ ((a = i ∧ c = j) ∨ (a = j ∧ c = i))))
theorem jm_add_no {σ σ' : jw_H} {o : Nat} {i j : Int} {P : Prop} (h : ¬ P) (e : σ' o = σ o) : jm_add σ σ' o i j P := fun a c _ _ => by
  unfold jm_nx
  rw [e]
  constructor
  · exact .inl
  · rintro (h1 | h1)
    · exact h1
    · exact absurd h1.1 h
theorem jm_add_so {m : Int} {σ σ' : jw_H} {o : Nat} {i j : Int} {P : Prop} (h : P) (hm : jm_mk m σ o) (i0 : 0 ≤ i) (i1 : i < 20) (im : i < m) (j0 : 0 ≤ j) (j1 : j < 20) (jm : j < m) (e : σ' o = jm_so (jm_so σ o i j) o j i o) : jm_add σ σ' o i j P := fun a c _ c0 => by
  have hm2 := jm_so_mk hm i0 im j0 j1
  have h1 := jm_so_nx (a := a) (c := c) hm2 j0 jm i0 i1 c0
  have h2 := jm_so_nx (a := a) (c := c) hm i0 im j0 j1 c0
  have h3 : jm_nx σ' o a c ↔ jm_nx (jm_so (jm_so σ o i j) o j i) o a c := by
    unfold jm_nx
    rw [e]
  rw [h3, h1, h2]
  constructor
  · rintro ((h4 | h4) | h4)
    · exact .inl h4
    · exact .inr ⟨h, .inl h4⟩
    · exact .inr ⟨h, .inr h4⟩
  · rintro (h4 | ⟨-, h4 | h4⟩)
    · exact .inl (.inl h4)
    · exact .inl (.inr h4)
    · exact .inr h4
theorem jm_knowsEdge {n : Nat} {σ : jw_H} {σ0 : jw_H} {i j : Int} {x y : ge_R × Int} {C : List (ge_R × Int)} (hP : jm_Pb σ0) (hK : jm_kn σ0 C) (hfl : jm_flat (σ0 103 3) (jm_bA σ0)) (hky : jm_key (jm_bA σ0)) (H : jm_ks C.length σ0 σ) (i0 : 0 ≤ i) (j0 : 0 ≤ j) (hxi : C[i.toNat]? = some x) (hyj : C[j.toNat]? = some y) : jw_T (js_S n) 7 257 [.inr (.inr 103), .inl i, .inl j] σ (fun r σ' => r = none ∧ jm_ks C.length σ0 σ' ∧ jm_add σ σ' 137 i j (ge_ed (jm_R σ0) x.1 y.1) ∧ jm_add σ σ' 138 i j (ge_ed (jm_R σ0) x.1 y.1 ∧ ¬ jm_Ef σ0 (jm_two x.1 y.1)) ∧ σ' 103 57 = σ 103 57 ∧ σ' 103 58 = σ 103 58 ∧ σ' 103 59 = σ 103 59) := by
  refine jw_T_of (D := 6) (M := mm_257) rfl (Nat.le_of_ble_eq_true rfl) (ls0 := [some (.inr (.inr 103)), some (.inl i), some (.inl j)]) rfl ?_ (by rintro _ _ ⟨rfl, -⟩; rfl)
  have hPs := jm_fk_Pb H.1 hP
  have e3 : σ 103 3 = σ0 103 3 := H.1.2 3 (by omega) (by omega) (by omega) (by omega)
  have hl := jm_kn_len hP hK.2.1
  have li : i.toNat < C.length := (List.getElem?_eq_some_iff.mp hxi).1
  have lj : j.toNat < C.length := (List.getElem?_eq_some_iff.mp hyj).1
  have i1 : i < 20 := by omega
  have j1 : j < 20 := by omega
  have im : i < (C.length : Int) := by omega
  have jm : j < (C.length : Int) := by omega
  obtain ⟨gi, gi2⟩ := hK.1.2 _ _ hxi
  obtain ⟨gj, gj2⟩ := hK.1.2 _ _ hyj
  rw [Int.toNat_of_nonneg i0] at gi gi2
  rw [Int.toNat_of_nonneg j0] at gj gj2
  have mx := hK.2.1.1 x (List.mem_of_getElem? hxi)
  have my := hK.2.1.1 y (List.mem_of_getElem? hyj)
  have b1 := jm_kn_bd hP hK x (List.mem_of_getElem? hxi)
  have b2 := jm_kn_bd hP hK y (List.mem_of_getElem? hyj)
  have t1 : σ 136 i = x.2 := (jm_fk_ct H.1 i).2.trans gi2
  have t2 : σ 136 j = y.2 := (jm_fk_ct H.1 j).2.trans gj2
  have hLL : jm_LL σ (jw_and (σ 136 i) (σ 136 j)) ↔ ge_ed (jm_R σ0) x.1 y.1 := by
    rw [t1, t2]
    unfold jm_R
    rw [← e3]
    exact jm_LL_ed (by rw [e3]; exact hP.1.1) (by rw [e3]; exact hP.1.2) H.2.2.1 (by rw [e3]; exact hfl) hky mx.2.2 my.2.2 (by rw [e3]; exact mx.1.1) (by rw [e3]; exact my.1.1)
  have ti : 0 ≤ σ 136 i ∧ σ 136 i ≤ 1048575 := by rw [t1]; exact ⟨mx.2.2.1, mx.2.2.2.1⟩
  have tj : 0 ≤ σ 136 j ∧ σ 136 j ≤ 1048575 := by rw [t2]; exact ⟨my.2.2.1, my.2.2.2.1⟩
  have hFF : ge_F (jm_RR (σ0 103 3) (jm_bA σ0)) (jm_two x.1 y.1) := jm_two_F mx.1.1 my.1.1
  refine jw_W_n 2 (i' := 2) (ls' := [some (.inr (.inr 103)), some (.inl i), some (.inl j)]) (st' := [.inr (.inr 103), .inr (.inr 103)]) rfl ?_
  refine jw_W_gf rfl rfl rfl ?_
  show jw_W (js_S n) _ md_257 3 [some (.inr (.inr 103)), some (.inl i), some (.inl j)] [.inr (.inr 136), .inr (.inr 103)] σ _
  refine jw_W_n 1 (i' := 4) (ls' := [some (.inr (.inr 103)), some (.inl i), some (.inl j)]) (st' := [.inl i, .inr (.inr 136), .inr (.inr 103)]) rfl ?_
  refine jw_W_ia rfl rfl (by omega) (by omega) (by omega) ?_
  show jw_W (js_S n) _ md_257 5 [some (.inr (.inr 103)), some (.inl i), some (.inl j)] [.inl (σ 136 i), .inr (.inr 103)] σ _
  refine jw_W_n 1 (i' := 6) (ls' := [some (.inr (.inr 103)), some (.inl i), some (.inl j)]) (st' := [.inr (.inr 103), .inl (σ 136 i), .inr (.inr 103)]) rfl ?_
  refine jw_W_gf rfl rfl rfl ?_
  show jw_W (js_S n) _ md_257 7 [some (.inr (.inr 103)), some (.inl i), some (.inl j)] [.inr (.inr 136), .inl (σ 136 i), .inr (.inr 103)] σ _
  refine jw_W_n 1 (i' := 8) (ls' := [some (.inr (.inr 103)), some (.inl i), some (.inl j)]) (st' := [.inl j, .inr (.inr 136), .inl (σ 136 i), .inr (.inr 103)]) rfl ?_
  refine jw_W_ia rfl rfl (by omega) (by omega) (by omega) ?_
  show jw_W (js_S n) _ md_257 9 [some (.inr (.inr 103)), some (.inl i), some (.inl j)] [.inl (σ 136 j), .inl (σ 136 i), .inr (.inr 103)] σ _
  refine jw_W_n 1 (i' := 10) (ls' := [some (.inr (.inr 103)), some (.inl i), some (.inl j)]) (st' := [.inl (jw_and (σ 136 i) (σ 136 j)), .inr (.inr 103)]) rfl ?_
  refine jw_W_call (as := [.inr (.inr 103), .inl (jw_and (σ 136 i) (σ 136 j))]) (rest := []) rfl rfl rfl rfl (Nat.le_of_ble_eq_true rfl) (.inr rfl) (jm_leaveLine H.2.1 (jm_tt ti tj).1 (by have := (jm_tt ti tj).2; omega) (by rw [e3]; exact hP.1.1) (by rw [e3]; exact hP.1.2)) (by omega) ?_ rfl
  rintro r1 σ1 (⟨rfl, hs, hyes⟩ | ⟨rfl, hs, hno⟩)
  · rw [hs]
    show jw_W (js_S n) _ md_257 11 [some (.inr (.inr 103)), some (.inl i), some (.inl j)] [.inl 1] σ _
    refine jw_W_if rfl (by unfold jw_rg; omega) (fun hc1 => ?_) (fun hc1 => ?_)
    · clear hc1
      refine jw_W_n 1 (i' := 14) (ls' := [some (.inr (.inr 103)), some (.inl i), some (.inl j)]) (st' := [.inr (.inr 103)]) rfl ?_
      refine jw_W_gf rfl rfl rfl ?_
      show jw_W (js_S n) _ md_257 15 [some (.inr (.inr 103)), some (.inl i), some (.inl j)] [.inr (.inr 137)] σ _
      refine jw_W_n 2 (i' := 17) (ls' := [some (.inr (.inr 103)), some (.inl i), some (.inl j)]) (st' := [.inr (.inr 103), .inl i, .inr (.inr 137)]) rfl ?_
      refine jw_W_gf rfl rfl rfl ?_
      show jw_W (js_S n) _ md_257 18 [some (.inr (.inr 103)), some (.inl i), some (.inl j)] [.inr (.inr 137), .inl i, .inr (.inr 137)] σ _
      refine jw_W_n 1 (i' := 19) (ls' := [some (.inr (.inr 103)), some (.inl i), some (.inl j)]) (st' := [.inl i, .inr (.inr 137), .inl i, .inr (.inr 137)]) rfl ?_
      refine jw_W_ia rfl rfl (by omega) (by omega) (by omega) ?_
      show jw_W (js_S n) _ md_257 20 [some (.inr (.inr 103)), some (.inl i), some (.inl j)] [.inl (σ 137 i), .inl i, .inr (.inr 137)] σ _
      refine jw_W_n 4 (i' := 24) (ls' := [some (.inr (.inr 103)), some (.inl i), some (.inl j)]) (st' := [.inl (jw_or (σ 137 i) (jw_shl 1 j)), .inl i, .inr (.inr 137)]) rfl ?_
      refine jw_W_is rfl (by omega) rfl (by omega) (by omega) (by omega) ?_
      refine jw_W_n 1 (i' := 26) (ls' := [some (.inr (.inr 103)), some (.inl i), some (.inl j)]) (st' := [.inr (.inr 103)]) rfl ?_
      refine jw_W_gf rfl rfl rfl ?_
      show jw_W (js_S n) _ md_257 27 [some (.inr (.inr 103)), some (.inl i), some (.inl j)] [.inr (.inr 137)] ((jw_up σ 137 i (jw_or (σ 137 i) (jw_shl 1 j)))) _
      refine jw_W_n 2 (i' := 29) (ls' := [some (.inr (.inr 103)), some (.inl i), some (.inl j)]) (st' := [.inr (.inr 103), .inl j, .inr (.inr 137)]) rfl ?_
      refine jw_W_gf rfl rfl rfl ?_
      show jw_W (js_S n) _ md_257 30 [some (.inr (.inr 103)), some (.inl i), some (.inl j)] [.inr (.inr 137), .inl j, .inr (.inr 137)] ((jw_up σ 137 i (jw_or (σ 137 i) (jw_shl 1 j)))) _
      refine jw_W_n 1 (i' := 31) (ls' := [some (.inr (.inr 103)), some (.inl i), some (.inl j)]) (st' := [.inl j, .inr (.inr 137), .inl j, .inr (.inr 137)]) rfl ?_
      refine jw_W_ia rfl rfl (by omega) (by omega) (by omega) ?_
      show jw_W (js_S n) _ md_257 32 [some (.inr (.inr 103)), some (.inl i), some (.inl j)] [.inl ((jw_up σ 137 i (jw_or (σ 137 i) (jw_shl 1 j))) 137 j), .inl j, .inr (.inr 137)] ((jw_up σ 137 i (jw_or (σ 137 i) (jw_shl 1 j)))) _
      refine jw_W_n 4 (i' := 36) (ls' := [some (.inr (.inr 103)), some (.inl i), some (.inl j)]) (st' := [.inl (jw_or ((jw_up σ 137 i (jw_or (σ 137 i) (jw_shl 1 j))) 137 j) (jw_shl 1 i)), .inl j, .inr (.inr 137)]) rfl ?_
      refine jw_W_is rfl (by omega) rfl (by omega) (by omega) (by omega) ?_
      have hED : ge_ed (jm_R σ0) x.1 y.1 := hLL.mp hyes
      show jw_W (js_S n) _ md_257 37 [some (.inr (.inr 103)), some (.inl i), some (.inl j)] [] (jm_so (jm_so σ 137 i j) 137 j i) _
      have H2 : jm_ks C.length σ0 (jm_so (jm_so σ 137 i j) 137 j i) := jm_ks_so (jm_ks_so H (.inl rfl) i0 im j0 j1) (.inl rfl) j0 jm i0 i1
      have a1 := jm_add_so (P := ge_ed (jm_R σ0) x.1 y.1) (σ' := jm_so (jm_so σ 137 i j) 137 j i) hED H.2.2.2.1 i0 i1 im j0 j1 jm rfl
      have a2 : jm_so (jm_so σ 137 i j) 137 j i 138 = σ 138 := (jm_so_o (by omega)).trans (jm_so_o (by omega))
      have a3 : jm_so (jm_so σ 137 i j) 137 j i 103 = σ 103 := (jm_so_o (by omega)).trans (jm_so_o (by omega))
      have a4 := jm_fk_ct H2.1 i
      have a5 := jm_fk_ct H2.1 j
      generalize jm_so (jm_so σ 137 i j) 137 j i = σ2 at *
      have w1 := congrArg (fun z : ge_R => z.1) (a4.1.trans gi)
      have w2 := congrArg (fun z : ge_R => z.2.1) (a4.1.trans gi)
      have w3 := congrArg (fun z : ge_R => z.2.2.1) (a4.1.trans gi)
      have w4 := congrArg (fun z : ge_R => z.2.2.2) (a4.1.trans gi)
      have u1 := congrArg (fun z : ge_R => z.1) (a5.1.trans gj)
      have u2 := congrArg (fun z : ge_R => z.2.1) (a5.1.trans gj)
      have u3 := congrArg (fun z : ge_R => z.2.2.1) (a5.1.trans gj)
      have u4 := congrArg (fun z : ge_R => z.2.2.2) (a5.1.trans gj)
      simp only [jm_ct] at w1 w2 w3 w4 u1 u2 u3 u4
      refine jw_W_n 2 (i' := 39) (ls' := [some (.inr (.inr 103)), some (.inl i), some (.inl j)]) (st' := [.inr (.inr 103), .inr (.inr 103)]) rfl ?_
      refine jw_W_gf rfl rfl rfl ?_
      show jw_W (js_S n) _ md_257 40 [some (.inr (.inr 103)), some (.inl i), some (.inl j)] [.inr (.inr 132), .inr (.inr 103)] σ2 _
      refine jw_W_n 1 (i' := 41) (ls' := [some (.inr (.inr 103)), some (.inl i), some (.inl j)]) (st' := [.inl i, .inr (.inr 132), .inr (.inr 103)]) rfl ?_
      refine jw_W_la rfl rfl (by omega) (by omega) (by omega) ?_
      show jw_W (js_S n) _ md_257 42 [some (.inr (.inr 103)), some (.inl i), some (.inl j)] [.inr (.inl (σ2 132 i)), .inr (.inr 103)] σ2 _
      rw [w1]
      refine jw_W_n 1 (i' := 43) (ls' := [some (.inr (.inr 103)), some (.inl i), some (.inl j)]) (st' := [.inr (.inr 103), .inr (.inl x.1.1), .inr (.inr 103)]) rfl ?_
      refine jw_W_gf rfl rfl rfl ?_
      show jw_W (js_S n) _ md_257 44 [some (.inr (.inr 103)), some (.inl i), some (.inl j)] [.inr (.inr 132), .inr (.inl x.1.1), .inr (.inr 103)] σ2 _
      refine jw_W_n 1 (i' := 45) (ls' := [some (.inr (.inr 103)), some (.inl i), some (.inl j)]) (st' := [.inl j, .inr (.inr 132), .inr (.inl x.1.1), .inr (.inr 103)]) rfl ?_
      refine jw_W_la rfl rfl (by omega) (by omega) (by omega) ?_
      show jw_W (js_S n) _ md_257 46 [some (.inr (.inr 103)), some (.inl i), some (.inl j)] [.inr (.inl (σ2 132 j)), .inr (.inl x.1.1), .inr (.inr 103)] σ2 _
      rw [u1]
      refine jw_W_n 2 (i' := 48) (ls' := [some (.inr (.inr 103)), some (.inl i), some (.inl j)]) (st' := [.inr (.inr 103), .inr (.inl (x.1.1 + y.1.1)), .inr (.inr 103)]) rfl ?_
      refine jw_W_gf rfl rfl rfl ?_
      show jw_W (js_S n) _ md_257 49 [some (.inr (.inr 103)), some (.inl i), some (.inl j)] [.inr (.inr 133), .inr (.inl (x.1.1 + y.1.1)), .inr (.inr 103)] σ2 _
      refine jw_W_n 1 (i' := 50) (ls' := [some (.inr (.inr 103)), some (.inl i), some (.inl j)]) (st' := [.inl i, .inr (.inr 133), .inr (.inl (x.1.1 + y.1.1)), .inr (.inr 103)]) rfl ?_
      refine jw_W_la rfl rfl (by omega) (by omega) (by omega) ?_
      show jw_W (js_S n) _ md_257 51 [some (.inr (.inr 103)), some (.inl i), some (.inl j)] [.inr (.inl (σ2 133 i)), .inr (.inl (x.1.1 + y.1.1)), .inr (.inr 103)] σ2 _
      rw [w2]
      refine jw_W_n 1 (i' := 52) (ls' := [some (.inr (.inr 103)), some (.inl i), some (.inl j)]) (st' := [.inr (.inr 103), .inr (.inl x.1.2.1), .inr (.inl (x.1.1 + y.1.1)), .inr (.inr 103)]) rfl ?_
      refine jw_W_gf rfl rfl rfl ?_
      show jw_W (js_S n) _ md_257 53 [some (.inr (.inr 103)), some (.inl i), some (.inl j)] [.inr (.inr 133), .inr (.inl x.1.2.1), .inr (.inl (x.1.1 + y.1.1)), .inr (.inr 103)] σ2 _
      refine jw_W_n 1 (i' := 54) (ls' := [some (.inr (.inr 103)), some (.inl i), some (.inl j)]) (st' := [.inl j, .inr (.inr 133), .inr (.inl x.1.2.1), .inr (.inl (x.1.1 + y.1.1)), .inr (.inr 103)]) rfl ?_
      refine jw_W_la rfl rfl (by omega) (by omega) (by omega) ?_
      show jw_W (js_S n) _ md_257 55 [some (.inr (.inr 103)), some (.inl i), some (.inl j)] [.inr (.inl (σ2 133 j)), .inr (.inl x.1.2.1), .inr (.inl (x.1.1 + y.1.1)), .inr (.inr 103)] σ2 _
      rw [u2]
      refine jw_W_n 2 (i' := 57) (ls' := [some (.inr (.inr 103)), some (.inl i), some (.inl j)]) (st' := [.inr (.inr 103), .inr (.inl (x.1.2.1 + y.1.2.1)), .inr (.inl (x.1.1 + y.1.1)), .inr (.inr 103)]) rfl ?_
      refine jw_W_gf rfl rfl rfl ?_
      show jw_W (js_S n) _ md_257 58 [some (.inr (.inr 103)), some (.inl i), some (.inl j)] [.inr (.inr 134), .inr (.inl (x.1.2.1 + y.1.2.1)), .inr (.inl (x.1.1 + y.1.1)), .inr (.inr 103)] σ2 _
      refine jw_W_n 1 (i' := 59) (ls' := [some (.inr (.inr 103)), some (.inl i), some (.inl j)]) (st' := [.inl i, .inr (.inr 134), .inr (.inl (x.1.2.1 + y.1.2.1)), .inr (.inl (x.1.1 + y.1.1)), .inr (.inr 103)]) rfl ?_
      refine jw_W_la rfl rfl (by omega) (by omega) (by omega) ?_
      show jw_W (js_S n) _ md_257 60 [some (.inr (.inr 103)), some (.inl i), some (.inl j)] [.inr (.inl (σ2 134 i)), .inr (.inl (x.1.2.1 + y.1.2.1)), .inr (.inl (x.1.1 + y.1.1)), .inr (.inr 103)] σ2 _
      rw [w3]
      refine jw_W_n 1 (i' := 61) (ls' := [some (.inr (.inr 103)), some (.inl i), some (.inl j)]) (st' := [.inr (.inr 103), .inr (.inl x.1.2.2.1), .inr (.inl (x.1.2.1 + y.1.2.1)), .inr (.inl (x.1.1 + y.1.1)), .inr (.inr 103)]) rfl ?_
      refine jw_W_gf rfl rfl rfl ?_
      show jw_W (js_S n) _ md_257 62 [some (.inr (.inr 103)), some (.inl i), some (.inl j)] [.inr (.inr 134), .inr (.inl x.1.2.2.1), .inr (.inl (x.1.2.1 + y.1.2.1)), .inr (.inl (x.1.1 + y.1.1)), .inr (.inr 103)] σ2 _
      refine jw_W_n 1 (i' := 63) (ls' := [some (.inr (.inr 103)), some (.inl i), some (.inl j)]) (st' := [.inl j, .inr (.inr 134), .inr (.inl x.1.2.2.1), .inr (.inl (x.1.2.1 + y.1.2.1)), .inr (.inl (x.1.1 + y.1.1)), .inr (.inr 103)]) rfl ?_
      refine jw_W_la rfl rfl (by omega) (by omega) (by omega) ?_
      show jw_W (js_S n) _ md_257 64 [some (.inr (.inr 103)), some (.inl i), some (.inl j)] [.inr (.inl (σ2 134 j)), .inr (.inl x.1.2.2.1), .inr (.inl (x.1.2.1 + y.1.2.1)), .inr (.inl (x.1.1 + y.1.1)), .inr (.inr 103)] σ2 _
      rw [u3]
      refine jw_W_n 2 (i' := 66) (ls' := [some (.inr (.inr 103)), some (.inl i), some (.inl j)]) (st' := [.inr (.inr 103), .inr (.inl (x.1.2.2.1 + y.1.2.2.1)), .inr (.inl (x.1.2.1 + y.1.2.1)), .inr (.inl (x.1.1 + y.1.1)), .inr (.inr 103)]) rfl ?_
      refine jw_W_gf rfl rfl rfl ?_
      show jw_W (js_S n) _ md_257 67 [some (.inr (.inr 103)), some (.inl i), some (.inl j)] [.inr (.inr 135), .inr (.inl (x.1.2.2.1 + y.1.2.2.1)), .inr (.inl (x.1.2.1 + y.1.2.1)), .inr (.inl (x.1.1 + y.1.1)), .inr (.inr 103)] σ2 _
      refine jw_W_n 1 (i' := 68) (ls' := [some (.inr (.inr 103)), some (.inl i), some (.inl j)]) (st' := [.inl i, .inr (.inr 135), .inr (.inl (x.1.2.2.1 + y.1.2.2.1)), .inr (.inl (x.1.2.1 + y.1.2.1)), .inr (.inl (x.1.1 + y.1.1)), .inr (.inr 103)]) rfl ?_
      refine jw_W_la rfl rfl (by omega) (by omega) (by omega) ?_
      show jw_W (js_S n) _ md_257 69 [some (.inr (.inr 103)), some (.inl i), some (.inl j)] [.inr (.inl (σ2 135 i)), .inr (.inl (x.1.2.2.1 + y.1.2.2.1)), .inr (.inl (x.1.2.1 + y.1.2.1)), .inr (.inl (x.1.1 + y.1.1)), .inr (.inr 103)] σ2 _
      rw [w4]
      refine jw_W_n 1 (i' := 70) (ls' := [some (.inr (.inr 103)), some (.inl i), some (.inl j)]) (st' := [.inr (.inr 103), .inr (.inl x.1.2.2.2), .inr (.inl (x.1.2.2.1 + y.1.2.2.1)), .inr (.inl (x.1.2.1 + y.1.2.1)), .inr (.inl (x.1.1 + y.1.1)), .inr (.inr 103)]) rfl ?_
      refine jw_W_gf rfl rfl rfl ?_
      show jw_W (js_S n) _ md_257 71 [some (.inr (.inr 103)), some (.inl i), some (.inl j)] [.inr (.inr 135), .inr (.inl x.1.2.2.2), .inr (.inl (x.1.2.2.1 + y.1.2.2.1)), .inr (.inl (x.1.2.1 + y.1.2.1)), .inr (.inl (x.1.1 + y.1.1)), .inr (.inr 103)] σ2 _
      refine jw_W_n 1 (i' := 72) (ls' := [some (.inr (.inr 103)), some (.inl i), some (.inl j)]) (st' := [.inl j, .inr (.inr 135), .inr (.inl x.1.2.2.2), .inr (.inl (x.1.2.2.1 + y.1.2.2.1)), .inr (.inl (x.1.2.1 + y.1.2.1)), .inr (.inl (x.1.1 + y.1.1)), .inr (.inr 103)]) rfl ?_
      refine jw_W_la rfl rfl (by omega) (by omega) (by omega) ?_
      show jw_W (js_S n) _ md_257 73 [some (.inr (.inr 103)), some (.inl i), some (.inl j)] [.inr (.inl (σ2 135 j)), .inr (.inl x.1.2.2.2), .inr (.inl (x.1.2.2.1 + y.1.2.2.1)), .inr (.inl (x.1.2.1 + y.1.2.1)), .inr (.inl (x.1.1 + y.1.1)), .inr (.inr 103)] σ2 _
      rw [u4]
      refine jw_W_n 1 (i' := 74) (ls' := [some (.inr (.inr 103)), some (.inl i), some (.inl j)]) (st' := [.inr (.inl (x.1.2.2.2 + y.1.2.2.2)), .inr (.inl (x.1.2.2.1 + y.1.2.2.1)), .inr (.inl (x.1.2.1 + y.1.2.1)), .inr (.inl (x.1.1 + y.1.1)), .inr (.inr 103)]) rfl ?_
      refine jw_W_call (as := [.inr (.inr 103), .inr (.inl (x.1.1 + y.1.1)), .inr (.inl (x.1.2.1 + y.1.2.1)), .inr (.inl (x.1.2.2.1 + y.1.2.2.1)), .inr (.inl (x.1.2.2.2 + y.1.2.2.2))]) (rest := []) rfl rfl rfl rfl (Nat.le_of_ble_eq_true rfl) (.inr rfl) (jm_isEff2 (C := C) (jm_fk_Pb H2.1 hP) H2.2.1 (jm_fk_kn H2.1 hK) (by omega) (by rw [jm_fk_bA H2.1, H2.1.2 3 (by omega) (by omega) (by omega) (by omega)]; exact hFF)) (by omega) ?_ rfl
      rintro r1 σ1 (⟨rfl, hfe, hE⟩ | ⟨rfl, hfe, hE⟩)
      · rename jw_H => σ3
        rw [jm_fk_Ef H2.1] at hE
        have H3 := jm_ks_fe H2 hfe
        show jw_W (js_S n) _ md_257 75 [some (.inr (.inr 103)), some (.inl i), some (.inl j)] [.inl 1] σ3 _
        refine jw_W_if rfl (by unfold jw_rg; omega) (fun hc2 => ?_) (fun hc2 => ?_)
        · exact absurd hc2 (show ¬ ((1 : Int) = 0) by omega)
        · clear hc2
          refine jw_W_n 1 (i' := 77) (ls' := [some (.inr (.inr 103)), some (.inl i), some (.inl j)]) (st' := [.inr (.inr 103)]) rfl ?_
          refine jw_W_gf rfl rfl rfl ?_
          show jw_W (js_S n) _ md_257 78 [some (.inr (.inr 103)), some (.inl i), some (.inl j)] [.inr (.inr 138)] σ3 _
          refine jw_W_n 2 (i' := 80) (ls' := [some (.inr (.inr 103)), some (.inl i), some (.inl j)]) (st' := [.inr (.inr 103), .inl i, .inr (.inr 138)]) rfl ?_
          refine jw_W_gf rfl rfl rfl ?_
          show jw_W (js_S n) _ md_257 81 [some (.inr (.inr 103)), some (.inl i), some (.inl j)] [.inr (.inr 138), .inl i, .inr (.inr 138)] σ3 _
          refine jw_W_n 1 (i' := 82) (ls' := [some (.inr (.inr 103)), some (.inl i), some (.inl j)]) (st' := [.inl i, .inr (.inr 138), .inl i, .inr (.inr 138)]) rfl ?_
          refine jw_W_ia rfl rfl (by omega) (by omega) (by omega) ?_
          show jw_W (js_S n) _ md_257 83 [some (.inr (.inr 103)), some (.inl i), some (.inl j)] [.inl (σ3 138 i), .inl i, .inr (.inr 138)] σ3 _
          refine jw_W_n 4 (i' := 87) (ls' := [some (.inr (.inr 103)), some (.inl i), some (.inl j)]) (st' := [.inl (jw_or (σ3 138 i) (jw_shl 1 j)), .inl i, .inr (.inr 138)]) rfl ?_
          refine jw_W_is rfl (by omega) rfl (by omega) (by omega) (by omega) ?_
          refine jw_W_n 1 (i' := 89) (ls' := [some (.inr (.inr 103)), some (.inl i), some (.inl j)]) (st' := [.inr (.inr 103)]) rfl ?_
          refine jw_W_gf rfl rfl rfl ?_
          show jw_W (js_S n) _ md_257 90 [some (.inr (.inr 103)), some (.inl i), some (.inl j)] [.inr (.inr 138)] ((jw_up σ3 138 i (jw_or (σ3 138 i) (jw_shl 1 j)))) _
          refine jw_W_n 2 (i' := 92) (ls' := [some (.inr (.inr 103)), some (.inl i), some (.inl j)]) (st' := [.inr (.inr 103), .inl j, .inr (.inr 138)]) rfl ?_
          refine jw_W_gf rfl rfl rfl ?_
          show jw_W (js_S n) _ md_257 93 [some (.inr (.inr 103)), some (.inl i), some (.inl j)] [.inr (.inr 138), .inl j, .inr (.inr 138)] ((jw_up σ3 138 i (jw_or (σ3 138 i) (jw_shl 1 j)))) _
          refine jw_W_n 1 (i' := 94) (ls' := [some (.inr (.inr 103)), some (.inl i), some (.inl j)]) (st' := [.inl j, .inr (.inr 138), .inl j, .inr (.inr 138)]) rfl ?_
          refine jw_W_ia rfl rfl (by omega) (by omega) (by omega) ?_
          show jw_W (js_S n) _ md_257 95 [some (.inr (.inr 103)), some (.inl i), some (.inl j)] [.inl ((jw_up σ3 138 i (jw_or (σ3 138 i) (jw_shl 1 j))) 138 j), .inl j, .inr (.inr 138)] ((jw_up σ3 138 i (jw_or (σ3 138 i) (jw_shl 1 j)))) _
          refine jw_W_n 4 (i' := 99) (ls' := [some (.inr (.inr 103)), some (.inl i), some (.inl j)]) (st' := [.inl (jw_or ((jw_up σ3 138 i (jw_or (σ3 138 i) (jw_shl 1 j))) 138 j) (jw_shl 1 i)), .inl j, .inr (.inr 138)]) rfl ?_
          refine jw_W_is rfl (by omega) rfl (by omega) (by omega) (by omega) ?_
          refine jw_W_re rfl ?_
          have f7 : σ3 137 = σ2 137 := hfe.1.1 137 (by omega) (by omega)
          have f8 : σ3 138 = σ 138 := (hfe.1.1 138 (by omega) (by omega)).trans a2
          have f57 : σ3 103 57 = σ 103 57 := by rw [hfe.1.2 57 (by omega), a3]
          have f58 : σ3 103 58 = σ 103 58 := by rw [hfe.1.2 58 (by omega), a3]
          have f59 : σ3 103 59 = σ 103 59 := by rw [hfe.1.2 59 (by omega), a3]
          have f7b : jm_so (jm_so σ3 138 i j) 138 j i 137 = σ2 137 := ((jm_so_o (by omega)).trans (jm_so_o (by omega))).trans f7
          have f3b : jm_so (jm_so σ3 138 i j) 138 j i 103 = σ3 103 := (jm_so_o (by omega)).trans (jm_so_o (by omega))
          refine ⟨rfl, jm_ks_so (jm_ks_so H3 (.inr rfl) i0 im j0 j1) (.inr rfl) j0 jm i0 i1, ?_, ?_, ?_, ?_, ?_⟩
          · intro a c h1 h2
            show jb_in (jm_so (jm_so σ3 138 i j) 138 j i 137 a) c.toNat ↔ _
            rw [f7b]
            exact a1 a c h1 h2
          · intro a c h1 h2
            have h9 := jm_add_so (P := ge_ed (jm_R σ0) x.1 y.1 ∧ ¬ jm_Ef σ0 (jm_two x.1 y.1)) (σ' := jm_so (jm_so σ3 138 i j) 138 j i) ⟨hED, hE⟩ H3.2.2.2.2 i0 i1 im j0 j1 jm rfl a c h1 h2
            unfold jm_nx at h9
            rw [f8] at h9
            exact h9
          · show jm_so (jm_so σ3 138 i j) 138 j i 103 57 = _
            rw [f3b]
            exact f57
          · show jm_so (jm_so σ3 138 i j) 138 j i 103 58 = _
            rw [f3b]
            exact f58
          · show jm_so (jm_so σ3 138 i j) 138 j i 103 59 = _
            rw [f3b]
            exact f59
      · rename jw_H => σ3
        rw [jm_fk_Ef H2.1] at hE
        have H3 := jm_ks_fe H2 hfe
        show jw_W (js_S n) _ md_257 75 [some (.inr (.inr 103)), some (.inl i), some (.inl j)] [.inl 0] σ3 _
        refine jw_W_if rfl (by unfold jw_rg; omega) (fun hc3 => ?_) (fun hc3 => ?_)
        · clear hc3
          refine jw_W_re rfl ?_
          have f7 : σ3 137 = σ2 137 := hfe.1.1 137 (by omega) (by omega)
          have f8 : σ3 138 = σ 138 := (hfe.1.1 138 (by omega) (by omega)).trans a2
          have f57 : σ3 103 57 = σ 103 57 := by rw [hfe.1.2 57 (by omega), a3]
          have f58 : σ3 103 58 = σ 103 58 := by rw [hfe.1.2 58 (by omega), a3]
          have f59 : σ3 103 59 = σ 103 59 := by rw [hfe.1.2 59 (by omega), a3]
          refine ⟨rfl, H3, ?_, jm_add_no (fun h => h.2 hE) f8, f57, f58, f59⟩
          intro a c h1 h2
          unfold jm_nx
          rw [f7]
          exact a1 a c h1 h2
        · exact absurd hc3 (show ¬ ¬ ((0 : Int) = 0) by omega)
    · exact absurd hc1 (show ¬ ¬ ((1 : Int) ≠ 0) by omega)
  · rw [hs]
    show jw_W (js_S n) _ md_257 11 [some (.inr (.inr 103)), some (.inl i), some (.inl j)] [.inl 0] σ _
    refine jw_W_if rfl (by unfold jw_rg; omega) (fun hc4 => ?_) (fun hc4 => ?_)
    · exact absurd hc4 (show ¬ ((0 : Int) ≠ 0) by omega)
    · clear hc4
      refine jw_W_re rfl ?_
      exact ⟨rfl, H, jm_add_no (fun h => hno (hLL.mpr h)) rfl, jm_add_no (fun h => hno (hLL.mpr h.1)) rfl, rfl, rfl, rfl⟩

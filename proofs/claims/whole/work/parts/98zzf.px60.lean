/-! ===== joined; a problem copied; keep, undo, count ===== -/
/-- what a query's context asks of the store -/
def jn_fw (o : Nat) (σ0 σ : jw_H) : Prop := σ 13 2 = σ0 13 2 ∧ ∀ c, ((o ≤ c ∧ c ≤ o + 5) ∨ (57 ≤ c ∧ c ≤ 64) ∨ (67 ≤ c ∧ c ≤ 91) ∨ 103 ≤ c) → σ c = σ0 c
theorem jn_fw_me {o : Nat} {σ0 σ : jw_H} (h : jn_fw o σ0 σ) : jx_me σ0 σ := fun c hc => h.2 c (by omega)
theorem jn_K_fw {n o : Nat} {C : List (ge_R × Int)} {σ0 σ : jw_H} (h : jn_fw o σ0 σ) (hK : jx_K n o C σ0) : jx_K n o C σ := by
  have hme := jn_fw_me h
  obtain ⟨hI, hN, hj⟩ := hK
  have hx := jx_I0_x hI
  have hP := hx.2.2.2.2.2.2.2.1
  have hcn := hx.2.2.2.2.2.2.2.2.1.1
  refine ⟨?_, jm_KN_me hme hN, ?_⟩
  · obtain ⟨⟨h1, h2, h3, h4⟩, ⟨h5, h6, h7, h8⟩, h9⟩ := hI
    have fo : ∀ c, o ≤ c → c ≤ o + 5 → σ c = σ0 c := fun c a b => h.2 c (by omega)
    refine ⟨⟨?_, h2, jx_Pb_fr fo h3, jx_pq_tr (jx_M_fr fo) (jx_pq_tr h4 (jx_pq_sy (jx_me_pq hme)))⟩, ⟨?_, ?_, ?_, fun i i0 i1 => ?_⟩, jm_kw_me hme h9⟩
    · rw [h.1]
      exact h1
    · rw [h.2 57 (by omega)]
      exact h5
    · rw [h.2 57 (by omega), hme 103 (by omega)]
      exact h6
    · rw [h.2 58 (by omega), hme 103 (by omega)]
      exact h7
    · rw [hme 103 (by omega)] at i1
      have := h8 i i0 i1
      rw [jx_me_ct hme, hme 136 (by omega), h.2 63 (by omega)]
      refine ⟨?_, this.2⟩
      rw [← this.1]
      unfold jx_pt
      rw [h.2 (58 + 1) (by omega), h.2 (58 + 2) (by omega), h.2 (58 + 3) (by omega), h.2 (58 + 4) (by omega)]
  · unfold jx_jj
    rw [h.2 57 (by omega)]
    refine hj.imp id (fun hh => ⟨hh.1, ?_⟩)
    intro a a0 a1
    rw [hme 103 (by omega)] at a1
    obtain ⟨h1, h2, h3⟩ := hh.2 a a0 a1
    rw [jx_me_ct hme, h.2 91 (by omega), h.2 64 (by omega), hme 139 (by omega)]
    refine ⟨jx_rs_pq (jx_pq_sy (jx_me_pq hme)) (jm_Pb_me hme hP) h1, h2, fun c c0 c1 => ?_⟩
    rw [hme 103 (by omega)] at c1
    rw [jx_lk_me hme hP, h.2 (67 + a.toNat) (by omega)]
    exact h3 c c0 c1
theorem jn_sorted_eq {lt : ge_R → ge_R → Prop} : ∀ {P Q : List ge_R}, (∀ a ∈ P, ∀ b ∈ P, lt a b → lt b a → False) → P.Pairwise lt → Q.Pairwise lt → (∀ v, v ∈ P ↔ v ∈ Q) → P = Q
  | [], [], _, _, _, _ => rfl
  | [], q :: Q, _, _, _, h => by
    have := (h q).mpr List.mem_cons_self
    cases this
  | p :: P, [], _, _, _, h => by
    have := (h p).mp List.mem_cons_self
    cases this
  | p :: P, q :: Q, ha, hP, hQ, h => by
    have hP2 := List.pairwise_cons.mp hP
    have hQ2 := List.pairwise_cons.mp hQ
    have hpq : p = q := by
      have h1 := (h p).mp List.mem_cons_self
      have h2 := (h q).mpr List.mem_cons_self
      rcases List.mem_cons.mp h1 with h1 | h1
      · exact h1
      · rcases List.mem_cons.mp h2 with h2 | h2
        · exact h2.symm
        · exact absurd (hQ2.1 p h1) (fun hh => ha p List.mem_cons_self q (List.mem_cons_of_mem _ h2) (hP2.1 q h2) hh)
    subst hpq
    rw [jn_sorted_eq (P := P) (Q := Q) (fun a h1 b h2 => ha a (List.mem_cons_of_mem _ h1) b (List.mem_cons_of_mem _ h2)) hP2.2 hQ2.2 (fun v => ?_)]
    constructor
    · intro hv
      rcases List.mem_cons.mp ((h v).mp (List.mem_cons_of_mem _ hv)) with hh | hh
      · rw [hh] at hv
        exact absurd (hP2.1 p hv) (fun hx => ha p List.mem_cons_self p List.mem_cons_self hx hx)
      · exact hh
    · intro hv
      rcases List.mem_cons.mp ((h v).mpr (List.mem_cons_of_mem _ hv)) with hh | hh
      · rw [hh] at hv
        exact absurd (hQ2.1 p hv) (fun hx => ha p List.mem_cons_self p List.mem_cons_self hx hx)
      · exact hh
/-- after class and reference have each laid the same problem, a query may be asked -/
theorem jn_join {n o : Nat} {σa σ1 σ2 : jw_H} {C : List (ge_R × Int)} (hp : jx_po n o) (hP : jx_Pb σa o) (hb : jx_bd1 σa o σ1) (h2 : ∀ c, c < 103 → σ2 c = σ1 c) (hto : σ1 13 2 = (o : Int)) (hpq : jx_pq (jx_M σa o) σ2) (hKN : jm_KN σ2 C) : jx_K n o C σ2 ∧ σ1 57 0 = σ2 103 56 := by
  have ho := hp.1
  have hP2 := hKN.1.1
  have hq2 := hP2.1
  have hk2 := hP2.2.2.1
  obtain ⟨P, hso, hlen, hV, f1, ⟨f2, f3, f4⟩, f5, f6⟩ := hb
  obtain ⟨hcor, hBd, hlt⟩ := hKN.1.2.1
  have eR : jm_R (jx_M σa o) = jm_R σ2 := jx_pq_R hpq (by omega) (by omega)
  have ebA : jm_bA (jx_M σa o) = jm_bA σ2 := jx_pq_bA hpq (by omega) (by omega)
  rw [eR] at hV
  have eP : P = C.map Prod.fst := by
    refine jn_sorted_eq (lt := fun a b => ge_lt a b = true) (fun a ha b hb h1 h3 => ?_) hso (List.pairwise_map.mpr hlt) (fun v => ?_)
    · rw [ge_lt_asy ((hV a).mp ha).1.1.1 ((hV b).mp hb).1.1.1 h1] at h3
      cases h3
    · rw [hV]
      constructor
      · rintro ⟨v1, v2⟩
        obtain ⟨x, hx, ex⟩ := hBd.2.1 v v1
        have hx1 := hBd.1 x hx
        rw [← ge_prim hx1.2.1 v2 hx1.1.1.1 v1.1.1 ex]
        exact List.mem_map.mpr ⟨x, hx, rfl⟩
      · intro hv
        obtain ⟨x, hx, ex⟩ := List.mem_map.mp hv
        have hx1 := hBd.1 x hx
        rw [← ex]
        exact ⟨hx1.1, hx1.2.1⟩
  have eL : P.length = C.length := by rw [eP, List.length_map]
  have fo : ∀ c, o ≤ c → c ≤ o + 5 → σ2 c = σa c := fun c h3 h4 => by rw [h2 c (by omega), f1 c (by omega)]
  have e56 : σ1 57 0 = σ2 103 56 := by rw [f2, hcor.1, eL]
  refine ⟨⟨⟨⟨?_, hp, jx_Pb_fr fo hP, jx_pq_tr (jx_M_fr fo) hpq⟩, ⟨?_, ?_, ?_, fun i i0 i1 => ?_⟩, hKN.1⟩, hKN, ?_⟩, e56⟩
  · rw [h2 13 (by omega)]
    exact hto
  · rw [h2 57 (by omega), f3]
    omega
  · rw [h2 57 (by omega)]
    exact e56
  · rw [h2 58 (by omega), f5.1, hcor.1, eL]
  · rw [hcor.1] at i1
    have hC := List.getElem?_eq_getElem (l := C) (i := i.toNat) (by omega)
    have h5 := hcor.2 _ _ hC
    rw [Int.toNat_of_nonneg i0] at h5
    have hPi : P[i.toNat]? = some (C[i.toNat]).1 := (congrArg (fun Q : List ge_R => Q[i.toNat]?) eP).trans (by
      rw [List.getElem?_map, hC]
      rfl)
    have h6 := f5.2 _ _ hPi
    rw [Int.toNat_of_nonneg i0] at h6
    have h7 := f6 _ _ hPi (by omega)
    rw [Int.toNat_of_nonneg i0] at h7
    constructor
    · rw [h5.1, ← h6]
      unfold jx_pt
      rw [h2 (58 + 1) (by omega), h2 (58 + 2) (by omega), h2 (58 + 3) (by omega), h2 (58 + 4) (by omega)]
    · rw [h2 63 (by omega), h5.2]
      have hm := List.getElem_mem (l := C) (n := i.toNat) (by omega)
      have e3 : σa o 2 + 2 * σa o 0 = (jx_M σa o) 103 5 + 2 * (jx_M σa o) 103 3 := rfl
      rw [e3] at h7
      have h8 := (jx_tt_tau (jx_Pb_M hP)).mp h7
      rw [ebA] at h8
      exact jx_tau_uq h8.1 (hBd.1 _ hm).2.2
  · left
    rw [h2 57 (by omega)]
    exact f4
/-- what laying a problem anew leaves as it was -/
def jn_kf (σ σ' : jw_H) : Prop := (∀ o, (o < 125 ∨ 139 < o) → o ≠ 103 → σ' o = σ o) ∧ ∀ j, j ≠ 46 → (j < 56 ∨ 59 < j) → σ' 103 j = σ 103 j
theorem jn_knows {n : Nat} {σ : jw_H} (hP : jm_Pb σ) (hN : jm_Ns σ) : jw_T (js_S n) 8 258 [.inr (.inr 103)] σ (fun r σ' => r = none ∧ jn_kf σ σ' ∧ ∃ C, jm_KN σ' C) := by
  refine jw_T_mono (jm_knows hP hN) (Nat.le_refl _) ?_
  rintro r σ' ⟨h1, σ0, C, σ1, h2, h3, h4, h5⟩
  have hKN := jm_kd_KN h4 h5
  obtain ⟨σ4, t, h6, h7, -⟩ := h5
  have a1 := h2.1
  have a2 := h6.1.1
  have a3 := jm_fl_me h7.1
  refine ⟨h1, ⟨fun o ho h103 => ?_, fun j j1 j2 => ?_⟩, C, hKN⟩
  · rw [a3.1 o (by omega) h103, a2.1 o (by omega) h103, h3.1 o (by omega) h103, a1.1 o (by omega) h103]
  · rw [a3.2 j j1 (by omega) (by omega) (by omega), a2.2 j j1 (by omega) (by omega) (by omega), h3.2 j (by omega), a1.2 j j1]
/-- a problem is as another one was -/
def jn_pc (σ : jw_H) (s d : Nat) (σ' : jw_H) : Prop := (∀ c, (c < d ∨ d + 5 < c) → σ' c = σ c) ∧ (σ' d 0 = σ s 0 ∧ σ' d 1 = σ s 1 ∧ σ' d 2 = σ s 2) ∧ (∀ j, 0 ≤ j → j < 9 → σ' (d + 1) j = σ (s + 1) j) ∧ (∀ j, 0 ≤ j → j < 12 → σ' (d + 2) j = σ (s + 2) j) ∧ (∀ j, 0 ≤ j → j < 4 → σ' (d + 3) j = σ (s + 3) j) ∧ (∀ j, 0 ≤ j → j < 4 → σ' (d + 4) j = σ (s + 4) j) ∧ ∀ j, 0 ≤ j → j < 3 → σ' (d + 5) j = σ (s + 5) j
theorem jn_pc_Pb {σ σ' : jw_H} {s d : Nat} (h : jn_pc σ s d σ') (hP : jx_Pb σ s) : jx_Pb σ' d := by
  obtain ⟨-, ⟨h0, h1, h2⟩, r1, r2, r3, r4, r5⟩ := h
  unfold jx_Pb at *
  rw [h0, h1, h2]
  obtain ⟨p1, p2, p3, p4, p5, p6⟩ := hP
  refine ⟨p1, p2, p3, fun k k0 k1 => ?_, fun j j0 j1 => ?_, fun w w0 w1 j j0 j1 => ?_⟩
  · rw [r3 k k0 (by omega), r4 k k0 (by omega)]
    refine ⟨fun j j0 j1 => ?_, (p4 k k0 k1).2⟩
    rw [r2 (3 * k + j) (by omega) (by omega)]
    exact (p4 k k0 k1).1 j j0 j1
  · rw [r5 j j0 j1]
    exact p5 j j0 j1
  · rw [r1 (3 * w + j) (by omega) (by omega)]
    exact p6 w w0 w1 j j0 j1
theorem jn_pc_pq {σ σ' : jw_H} {s d : Nat} (h : jn_pc σ s d σ') (hP : jx_Pb σ s) : jx_pq (jx_M σ' d) (jx_M σ s) := by
  obtain ⟨-, ⟨h0, h1, h2⟩, r1, r2, r3, r4, r5⟩ := h
  obtain ⟨p1, p2, p3, p4, p5, p6⟩ := hP
  refine ⟨⟨h0, h1, h2⟩, fun j j0 j1 => ?_, fun j j0 j1 => ?_, fun j j0 j1 => r5 j j0 j1⟩
  · have j1 : j < 3 * σ s 1 := j1
    exact r1 j j0 (by omega)
  · have j1 : j < 5 * σ s 2 := j1
    show (if j % 5 < 3 then σ' (d + 2) (3 * (j / 5) + j % 5) else if j % 5 = 3 then σ' (d + 3) (j / 5) else σ' (d + 4) (j / 5)) = (if j % 5 < 3 then σ (s + 2) (3 * (j / 5) + j % 5) else if j % 5 = 3 then σ (s + 3) (j / 5) else σ (s + 4) (j / 5))
    rw [r3 (j / 5) (by omega) (by omega), r4 (j / 5) (by omega) (by omega)]
    split
    · exact r2 _ (by omega) (by omega)
    · rfl
theorem jn_pcopy_27_15 {n : Nat} {σ : jw_H}  : jw_T (js_S n) 1 68 [.inr (.inr 27), .inr (.inr 15)] σ (fun r σ' => r = none ∧ jn_pc σ 15 27 σ') := by
  refine jw_T_of (D := 0) (M := mm_68) rfl (Nat.le_of_ble_eq_true rfl) (ls0 := [some (.inr (.inr 27)), some (.inr (.inr 15))]) rfl ?_ (by rintro _ _ ⟨rfl, -⟩; rfl)
  refine jw_W_n 2 (i' := 2) (ls' := [some (.inr (.inr 27)), some (.inr (.inr 15))]) (st' := [.inr (.inr 15), .inr (.inr 27)]) rfl ?_
  refine jw_W_gf rfl rfl rfl ?_
  show jw_W (js_S n) _ md_68 3 [some (.inr (.inr 27)), some (.inr (.inr 15))] [.inl (σ 15 0), .inr (.inr 27)] σ _
  refine jw_W_pf (a := σ 15 0) rfl (by omega) rfl rfl rfl rfl rfl ?_
  refine jw_W_n 2 (i' := 6) (ls' := [some (.inr (.inr 27)), some (.inr (.inr 15))]) (st' := [.inr (.inr 15), .inr (.inr 27)]) rfl ?_
  refine jw_W_gf rfl rfl rfl ?_
  show jw_W (js_S n) _ md_68 7 [some (.inr (.inr 27)), some (.inr (.inr 15))] [.inl (σ 15 1), .inr (.inr 27)] ((jw_up σ 27 0 (σ 15 0))) _
  refine jw_W_pf (a := σ 15 1) rfl (by omega) rfl rfl rfl rfl rfl ?_
  refine jw_W_n 2 (i' := 10) (ls' := [some (.inr (.inr 27)), some (.inr (.inr 15))]) (st' := [.inr (.inr 15), .inr (.inr 27)]) rfl ?_
  refine jw_W_gf rfl rfl rfl ?_
  show jw_W (js_S n) _ md_68 11 [some (.inr (.inr 27)), some (.inr (.inr 15))] [.inl (σ 15 2), .inr (.inr 27)] ((jw_up (jw_up σ 27 0 (σ 15 0)) 27 1 (σ 15 1))) _
  refine jw_W_pf (a := σ 15 2) rfl (by omega) rfl rfl rfl rfl rfl ?_
  refine jw_W_n 1 (i' := 13) (ls' := [some (.inr (.inr 27)), some (.inr (.inr 15))]) (st' := [.inr (.inr 15)]) rfl ?_
  refine jw_W_gf rfl rfl rfl ?_
  show jw_W (js_S n) _ md_68 14 [some (.inr (.inr 27)), some (.inr (.inr 15))] [.inr (.inr 16)] ((jw_up (jw_up (jw_up σ 27 0 (σ 15 0)) 27 1 (σ 15 1)) 27 2 (σ 15 2))) _
  refine jw_W_n 2 (i' := 16) (ls' := [some (.inr (.inr 27)), some (.inr (.inr 15))]) (st' := [.inr (.inr 27), .inl 0, .inr (.inr 16)]) rfl ?_
  refine jw_W_gf rfl rfl rfl ?_
  show jw_W (js_S n) _ md_68 17 [some (.inr (.inr 27)), some (.inr (.inr 15))] [.inr (.inr 28), .inl 0, .inr (.inr 16)] ((jw_up (jw_up (jw_up σ 27 0 (σ 15 0)) 27 1 (σ 15 1)) 27 2 (σ 15 2))) _
  refine jw_W_n 2 (i' := 19) (ls' := [some (.inr (.inr 27)), some (.inr (.inr 15))]) (st' := [.inl 9, .inl 0, .inr (.inr 28), .inl 0, .inr (.inr 16)]) rfl ?_
  refine jw_W_cp rfl rfl (by omega) rfl rfl (by omega) (by omega) (by omega) (by omega) (by omega) (by omega) (by omega) (Nat.le_of_ble_eq_true rfl) ?_
  refine jw_W_n 1 (i' := 21) (ls' := [some (.inr (.inr 27)), some (.inr (.inr 15))]) (st' := [.inr (.inr 15)]) rfl ?_
  refine jw_W_gf rfl rfl rfl ?_
  show jw_W (js_S n) _ md_68 22 [some (.inr (.inr 27)), some (.inr (.inr 15))] [.inr (.inr 17)] ((jw_cp ((jw_up (jw_up (jw_up σ 27 0 (σ 15 0)) 27 1 (σ 15 1)) 27 2 (σ 15 2))) 16 0 28 0 9)) _
  refine jw_W_n 2 (i' := 24) (ls' := [some (.inr (.inr 27)), some (.inr (.inr 15))]) (st' := [.inr (.inr 27), .inl 0, .inr (.inr 17)]) rfl ?_
  refine jw_W_gf rfl rfl rfl ?_
  show jw_W (js_S n) _ md_68 25 [some (.inr (.inr 27)), some (.inr (.inr 15))] [.inr (.inr 29), .inl 0, .inr (.inr 17)] ((jw_cp ((jw_up (jw_up (jw_up σ 27 0 (σ 15 0)) 27 1 (σ 15 1)) 27 2 (σ 15 2))) 16 0 28 0 9)) _
  refine jw_W_n 2 (i' := 27) (ls' := [some (.inr (.inr 27)), some (.inr (.inr 15))]) (st' := [.inl 12, .inl 0, .inr (.inr 29), .inl 0, .inr (.inr 17)]) rfl ?_
  refine jw_W_cp rfl rfl (by omega) rfl rfl (by omega) (by omega) (by omega) (by omega) (by omega) (by omega) (by omega) (Nat.le_of_ble_eq_true rfl) ?_
  refine jw_W_n 1 (i' := 29) (ls' := [some (.inr (.inr 27)), some (.inr (.inr 15))]) (st' := [.inr (.inr 15)]) rfl ?_
  refine jw_W_gf rfl rfl rfl ?_
  show jw_W (js_S n) _ md_68 30 [some (.inr (.inr 27)), some (.inr (.inr 15))] [.inr (.inr 18)] ((jw_cp ((jw_cp ((jw_up (jw_up (jw_up σ 27 0 (σ 15 0)) 27 1 (σ 15 1)) 27 2 (σ 15 2))) 16 0 28 0 9)) 17 0 29 0 12)) _
  refine jw_W_n 2 (i' := 32) (ls' := [some (.inr (.inr 27)), some (.inr (.inr 15))]) (st' := [.inr (.inr 27), .inl 0, .inr (.inr 18)]) rfl ?_
  refine jw_W_gf rfl rfl rfl ?_
  show jw_W (js_S n) _ md_68 33 [some (.inr (.inr 27)), some (.inr (.inr 15))] [.inr (.inr 30), .inl 0, .inr (.inr 18)] ((jw_cp ((jw_cp ((jw_up (jw_up (jw_up σ 27 0 (σ 15 0)) 27 1 (σ 15 1)) 27 2 (σ 15 2))) 16 0 28 0 9)) 17 0 29 0 12)) _
  refine jw_W_n 2 (i' := 35) (ls' := [some (.inr (.inr 27)), some (.inr (.inr 15))]) (st' := [.inl 4, .inl 0, .inr (.inr 30), .inl 0, .inr (.inr 18)]) rfl ?_
  refine jw_W_cp rfl rfl (by omega) rfl rfl (by omega) (by omega) (by omega) (by omega) (by omega) (by omega) (by omega) (Nat.le_of_ble_eq_true rfl) ?_
  refine jw_W_n 1 (i' := 37) (ls' := [some (.inr (.inr 27)), some (.inr (.inr 15))]) (st' := [.inr (.inr 15)]) rfl ?_
  refine jw_W_gf rfl rfl rfl ?_
  show jw_W (js_S n) _ md_68 38 [some (.inr (.inr 27)), some (.inr (.inr 15))] [.inr (.inr 19)] ((jw_cp ((jw_cp ((jw_cp ((jw_up (jw_up (jw_up σ 27 0 (σ 15 0)) 27 1 (σ 15 1)) 27 2 (σ 15 2))) 16 0 28 0 9)) 17 0 29 0 12)) 18 0 30 0 4)) _
  refine jw_W_n 2 (i' := 40) (ls' := [some (.inr (.inr 27)), some (.inr (.inr 15))]) (st' := [.inr (.inr 27), .inl 0, .inr (.inr 19)]) rfl ?_
  refine jw_W_gf rfl rfl rfl ?_
  show jw_W (js_S n) _ md_68 41 [some (.inr (.inr 27)), some (.inr (.inr 15))] [.inr (.inr 31), .inl 0, .inr (.inr 19)] ((jw_cp ((jw_cp ((jw_cp ((jw_up (jw_up (jw_up σ 27 0 (σ 15 0)) 27 1 (σ 15 1)) 27 2 (σ 15 2))) 16 0 28 0 9)) 17 0 29 0 12)) 18 0 30 0 4)) _
  refine jw_W_n 2 (i' := 43) (ls' := [some (.inr (.inr 27)), some (.inr (.inr 15))]) (st' := [.inl 4, .inl 0, .inr (.inr 31), .inl 0, .inr (.inr 19)]) rfl ?_
  refine jw_W_cp rfl rfl (by omega) rfl rfl (by omega) (by omega) (by omega) (by omega) (by omega) (by omega) (by omega) (Nat.le_of_ble_eq_true rfl) ?_
  refine jw_W_n 1 (i' := 45) (ls' := [some (.inr (.inr 27)), some (.inr (.inr 15))]) (st' := [.inr (.inr 15)]) rfl ?_
  refine jw_W_gf rfl rfl rfl ?_
  show jw_W (js_S n) _ md_68 46 [some (.inr (.inr 27)), some (.inr (.inr 15))] [.inr (.inr 20)] ((jw_cp ((jw_cp ((jw_cp ((jw_cp ((jw_up (jw_up (jw_up σ 27 0 (σ 15 0)) 27 1 (σ 15 1)) 27 2 (σ 15 2))) 16 0 28 0 9)) 17 0 29 0 12)) 18 0 30 0 4)) 19 0 31 0 4)) _
  refine jw_W_n 2 (i' := 48) (ls' := [some (.inr (.inr 27)), some (.inr (.inr 15))]) (st' := [.inr (.inr 27), .inl 0, .inr (.inr 20)]) rfl ?_
  refine jw_W_gf rfl rfl rfl ?_
  show jw_W (js_S n) _ md_68 49 [some (.inr (.inr 27)), some (.inr (.inr 15))] [.inr (.inr 32), .inl 0, .inr (.inr 20)] ((jw_cp ((jw_cp ((jw_cp ((jw_cp ((jw_up (jw_up (jw_up σ 27 0 (σ 15 0)) 27 1 (σ 15 1)) 27 2 (σ 15 2))) 16 0 28 0 9)) 17 0 29 0 12)) 18 0 30 0 4)) 19 0 31 0 4)) _
  refine jw_W_n 2 (i' := 51) (ls' := [some (.inr (.inr 27)), some (.inr (.inr 15))]) (st' := [.inl 3, .inl 0, .inr (.inr 32), .inl 0, .inr (.inr 20)]) rfl ?_
  refine jw_W_cp rfl rfl (by omega) rfl rfl (by omega) (by omega) (by omega) (by omega) (by omega) (by omega) (by omega) (Nat.le_of_ble_eq_true rfl) ?_
  refine jw_W_re rfl ?_
  refine ⟨rfl, ?_, ⟨?_, ?_, ?_⟩, ?_, ?_, ?_, ?_, ?_⟩
  · intro c hc
    rw [jw_cp_o (by omega), jw_cp_o (by omega), jw_cp_o (by omega), jw_cp_o (by omega), jw_cp_o (by omega), jw_up_out _ _ _ (by omega), jw_up_out _ _ _ (by omega), jw_up_out _ _ _ (by omega)]
  · rw [jw_cp_o (by omega), jw_cp_o (by omega), jw_cp_o (by omega), jw_cp_o (by omega), jw_cp_o (by omega)]
    rfl
  · rw [jw_cp_o (by omega), jw_cp_o (by omega), jw_cp_o (by omega), jw_cp_o (by omega), jw_cp_o (by omega)]
    rfl
  · rw [jw_cp_o (by omega), jw_cp_o (by omega), jw_cp_o (by omega), jw_cp_o (by omega), jw_cp_o (by omega)]
    rfl
  · intro j j0 j1
    simp only [Nat.reduceAdd]
    rw [jw_cp_o (o' := 28) (by omega), jw_cp_o (o' := 28) (by omega), jw_cp_o (o' := 28) (by omega), jw_cp_o (o' := 28) (by omega), jw_cp_i j0 (by omega), show (0 : Int) + (j - 0) = j by omega, jw_up_out _ _ _ (by omega), jw_up_out _ _ _ (by omega), jw_up_out _ _ _ (by omega)]
  · intro j j0 j1
    simp only [Nat.reduceAdd]
    rw [jw_cp_o (o' := 29) (by omega), jw_cp_o (o' := 29) (by omega), jw_cp_o (o' := 29) (by omega), jw_cp_i j0 (by omega), show (0 : Int) + (j - 0) = j by omega, jw_cp_o (o' := 17) (by omega), jw_up_out _ _ _ (by omega), jw_up_out _ _ _ (by omega), jw_up_out _ _ _ (by omega)]
  · intro j j0 j1
    simp only [Nat.reduceAdd]
    rw [jw_cp_o (o' := 30) (by omega), jw_cp_o (o' := 30) (by omega), jw_cp_i j0 (by omega), show (0 : Int) + (j - 0) = j by omega, jw_cp_o (o' := 18) (by omega), jw_cp_o (o' := 18) (by omega), jw_up_out _ _ _ (by omega), jw_up_out _ _ _ (by omega), jw_up_out _ _ _ (by omega)]
  · intro j j0 j1
    simp only [Nat.reduceAdd]
    rw [jw_cp_o (o' := 31) (by omega), jw_cp_i j0 (by omega), show (0 : Int) + (j - 0) = j by omega, jw_cp_o (o' := 19) (by omega), jw_cp_o (o' := 19) (by omega), jw_cp_o (o' := 19) (by omega), jw_up_out _ _ _ (by omega), jw_up_out _ _ _ (by omega), jw_up_out _ _ _ (by omega)]
  · intro j j0 j1
    simp only [Nat.reduceAdd]
    rw [jw_cp_i j0 (by omega), show (0 : Int) + (j - 0) = j by omega, jw_cp_o (o' := 20) (by omega), jw_cp_o (o' := 20) (by omega), jw_cp_o (o' := 20) (by omega), jw_cp_o (o' := 20) (by omega), jw_up_out _ _ _ (by omega), jw_up_out _ _ _ (by omega), jw_up_out _ _ _ (by omega)]
theorem jn_pcopy_27_21 {n : Nat} {σ : jw_H}  : jw_T (js_S n) 1 68 [.inr (.inr 27), .inr (.inr 21)] σ (fun r σ' => r = none ∧ jn_pc σ 21 27 σ') := by
  refine jw_T_of (D := 0) (M := mm_68) rfl (Nat.le_of_ble_eq_true rfl) (ls0 := [some (.inr (.inr 27)), some (.inr (.inr 21))]) rfl ?_ (by rintro _ _ ⟨rfl, -⟩; rfl)
  refine jw_W_n 2 (i' := 2) (ls' := [some (.inr (.inr 27)), some (.inr (.inr 21))]) (st' := [.inr (.inr 21), .inr (.inr 27)]) rfl ?_
  refine jw_W_gf rfl rfl rfl ?_
  show jw_W (js_S n) _ md_68 3 [some (.inr (.inr 27)), some (.inr (.inr 21))] [.inl (σ 21 0), .inr (.inr 27)] σ _
  refine jw_W_pf (a := σ 21 0) rfl (by omega) rfl rfl rfl rfl rfl ?_
  refine jw_W_n 2 (i' := 6) (ls' := [some (.inr (.inr 27)), some (.inr (.inr 21))]) (st' := [.inr (.inr 21), .inr (.inr 27)]) rfl ?_
  refine jw_W_gf rfl rfl rfl ?_
  show jw_W (js_S n) _ md_68 7 [some (.inr (.inr 27)), some (.inr (.inr 21))] [.inl (σ 21 1), .inr (.inr 27)] ((jw_up σ 27 0 (σ 21 0))) _
  refine jw_W_pf (a := σ 21 1) rfl (by omega) rfl rfl rfl rfl rfl ?_
  refine jw_W_n 2 (i' := 10) (ls' := [some (.inr (.inr 27)), some (.inr (.inr 21))]) (st' := [.inr (.inr 21), .inr (.inr 27)]) rfl ?_
  refine jw_W_gf rfl rfl rfl ?_
  show jw_W (js_S n) _ md_68 11 [some (.inr (.inr 27)), some (.inr (.inr 21))] [.inl (σ 21 2), .inr (.inr 27)] ((jw_up (jw_up σ 27 0 (σ 21 0)) 27 1 (σ 21 1))) _
  refine jw_W_pf (a := σ 21 2) rfl (by omega) rfl rfl rfl rfl rfl ?_
  refine jw_W_n 1 (i' := 13) (ls' := [some (.inr (.inr 27)), some (.inr (.inr 21))]) (st' := [.inr (.inr 21)]) rfl ?_
  refine jw_W_gf rfl rfl rfl ?_
  show jw_W (js_S n) _ md_68 14 [some (.inr (.inr 27)), some (.inr (.inr 21))] [.inr (.inr 22)] ((jw_up (jw_up (jw_up σ 27 0 (σ 21 0)) 27 1 (σ 21 1)) 27 2 (σ 21 2))) _
  refine jw_W_n 2 (i' := 16) (ls' := [some (.inr (.inr 27)), some (.inr (.inr 21))]) (st' := [.inr (.inr 27), .inl 0, .inr (.inr 22)]) rfl ?_
  refine jw_W_gf rfl rfl rfl ?_
  show jw_W (js_S n) _ md_68 17 [some (.inr (.inr 27)), some (.inr (.inr 21))] [.inr (.inr 28), .inl 0, .inr (.inr 22)] ((jw_up (jw_up (jw_up σ 27 0 (σ 21 0)) 27 1 (σ 21 1)) 27 2 (σ 21 2))) _
  refine jw_W_n 2 (i' := 19) (ls' := [some (.inr (.inr 27)), some (.inr (.inr 21))]) (st' := [.inl 9, .inl 0, .inr (.inr 28), .inl 0, .inr (.inr 22)]) rfl ?_
  refine jw_W_cp rfl rfl (by omega) rfl rfl (by omega) (by omega) (by omega) (by omega) (by omega) (by omega) (by omega) (Nat.le_of_ble_eq_true rfl) ?_
  refine jw_W_n 1 (i' := 21) (ls' := [some (.inr (.inr 27)), some (.inr (.inr 21))]) (st' := [.inr (.inr 21)]) rfl ?_
  refine jw_W_gf rfl rfl rfl ?_
  show jw_W (js_S n) _ md_68 22 [some (.inr (.inr 27)), some (.inr (.inr 21))] [.inr (.inr 23)] ((jw_cp ((jw_up (jw_up (jw_up σ 27 0 (σ 21 0)) 27 1 (σ 21 1)) 27 2 (σ 21 2))) 22 0 28 0 9)) _
  refine jw_W_n 2 (i' := 24) (ls' := [some (.inr (.inr 27)), some (.inr (.inr 21))]) (st' := [.inr (.inr 27), .inl 0, .inr (.inr 23)]) rfl ?_
  refine jw_W_gf rfl rfl rfl ?_
  show jw_W (js_S n) _ md_68 25 [some (.inr (.inr 27)), some (.inr (.inr 21))] [.inr (.inr 29), .inl 0, .inr (.inr 23)] ((jw_cp ((jw_up (jw_up (jw_up σ 27 0 (σ 21 0)) 27 1 (σ 21 1)) 27 2 (σ 21 2))) 22 0 28 0 9)) _
  refine jw_W_n 2 (i' := 27) (ls' := [some (.inr (.inr 27)), some (.inr (.inr 21))]) (st' := [.inl 12, .inl 0, .inr (.inr 29), .inl 0, .inr (.inr 23)]) rfl ?_
  refine jw_W_cp rfl rfl (by omega) rfl rfl (by omega) (by omega) (by omega) (by omega) (by omega) (by omega) (by omega) (Nat.le_of_ble_eq_true rfl) ?_
  refine jw_W_n 1 (i' := 29) (ls' := [some (.inr (.inr 27)), some (.inr (.inr 21))]) (st' := [.inr (.inr 21)]) rfl ?_
  refine jw_W_gf rfl rfl rfl ?_
  show jw_W (js_S n) _ md_68 30 [some (.inr (.inr 27)), some (.inr (.inr 21))] [.inr (.inr 24)] ((jw_cp ((jw_cp ((jw_up (jw_up (jw_up σ 27 0 (σ 21 0)) 27 1 (σ 21 1)) 27 2 (σ 21 2))) 22 0 28 0 9)) 23 0 29 0 12)) _
  refine jw_W_n 2 (i' := 32) (ls' := [some (.inr (.inr 27)), some (.inr (.inr 21))]) (st' := [.inr (.inr 27), .inl 0, .inr (.inr 24)]) rfl ?_
  refine jw_W_gf rfl rfl rfl ?_
  show jw_W (js_S n) _ md_68 33 [some (.inr (.inr 27)), some (.inr (.inr 21))] [.inr (.inr 30), .inl 0, .inr (.inr 24)] ((jw_cp ((jw_cp ((jw_up (jw_up (jw_up σ 27 0 (σ 21 0)) 27 1 (σ 21 1)) 27 2 (σ 21 2))) 22 0 28 0 9)) 23 0 29 0 12)) _
  refine jw_W_n 2 (i' := 35) (ls' := [some (.inr (.inr 27)), some (.inr (.inr 21))]) (st' := [.inl 4, .inl 0, .inr (.inr 30), .inl 0, .inr (.inr 24)]) rfl ?_
  refine jw_W_cp rfl rfl (by omega) rfl rfl (by omega) (by omega) (by omega) (by omega) (by omega) (by omega) (by omega) (Nat.le_of_ble_eq_true rfl) ?_
  refine jw_W_n 1 (i' := 37) (ls' := [some (.inr (.inr 27)), some (.inr (.inr 21))]) (st' := [.inr (.inr 21)]) rfl ?_
  refine jw_W_gf rfl rfl rfl ?_
  show jw_W (js_S n) _ md_68 38 [some (.inr (.inr 27)), some (.inr (.inr 21))] [.inr (.inr 25)] ((jw_cp ((jw_cp ((jw_cp ((jw_up (jw_up (jw_up σ 27 0 (σ 21 0)) 27 1 (σ 21 1)) 27 2 (σ 21 2))) 22 0 28 0 9)) 23 0 29 0 12)) 24 0 30 0 4)) _
  refine jw_W_n 2 (i' := 40) (ls' := [some (.inr (.inr 27)), some (.inr (.inr 21))]) (st' := [.inr (.inr 27), .inl 0, .inr (.inr 25)]) rfl ?_
  refine jw_W_gf rfl rfl rfl ?_
  show jw_W (js_S n) _ md_68 41 [some (.inr (.inr 27)), some (.inr (.inr 21))] [.inr (.inr 31), .inl 0, .inr (.inr 25)] ((jw_cp ((jw_cp ((jw_cp ((jw_up (jw_up (jw_up σ 27 0 (σ 21 0)) 27 1 (σ 21 1)) 27 2 (σ 21 2))) 22 0 28 0 9)) 23 0 29 0 12)) 24 0 30 0 4)) _
  refine jw_W_n 2 (i' := 43) (ls' := [some (.inr (.inr 27)), some (.inr (.inr 21))]) (st' := [.inl 4, .inl 0, .inr (.inr 31), .inl 0, .inr (.inr 25)]) rfl ?_
  refine jw_W_cp rfl rfl (by omega) rfl rfl (by omega) (by omega) (by omega) (by omega) (by omega) (by omega) (by omega) (Nat.le_of_ble_eq_true rfl) ?_
  refine jw_W_n 1 (i' := 45) (ls' := [some (.inr (.inr 27)), some (.inr (.inr 21))]) (st' := [.inr (.inr 21)]) rfl ?_
  refine jw_W_gf rfl rfl rfl ?_
  show jw_W (js_S n) _ md_68 46 [some (.inr (.inr 27)), some (.inr (.inr 21))] [.inr (.inr 26)] ((jw_cp ((jw_cp ((jw_cp ((jw_cp ((jw_up (jw_up (jw_up σ 27 0 (σ 21 0)) 27 1 (σ 21 1)) 27 2 (σ 21 2))) 22 0 28 0 9)) 23 0 29 0 12)) 24 0 30 0 4)) 25 0 31 0 4)) _
  refine jw_W_n 2 (i' := 48) (ls' := [some (.inr (.inr 27)), some (.inr (.inr 21))]) (st' := [.inr (.inr 27), .inl 0, .inr (.inr 26)]) rfl ?_
  refine jw_W_gf rfl rfl rfl ?_
  show jw_W (js_S n) _ md_68 49 [some (.inr (.inr 27)), some (.inr (.inr 21))] [.inr (.inr 32), .inl 0, .inr (.inr 26)] ((jw_cp ((jw_cp ((jw_cp ((jw_cp ((jw_up (jw_up (jw_up σ 27 0 (σ 21 0)) 27 1 (σ 21 1)) 27 2 (σ 21 2))) 22 0 28 0 9)) 23 0 29 0 12)) 24 0 30 0 4)) 25 0 31 0 4)) _
  refine jw_W_n 2 (i' := 51) (ls' := [some (.inr (.inr 27)), some (.inr (.inr 21))]) (st' := [.inl 3, .inl 0, .inr (.inr 32), .inl 0, .inr (.inr 26)]) rfl ?_
  refine jw_W_cp rfl rfl (by omega) rfl rfl (by omega) (by omega) (by omega) (by omega) (by omega) (by omega) (by omega) (Nat.le_of_ble_eq_true rfl) ?_
  refine jw_W_re rfl ?_
  refine ⟨rfl, ?_, ⟨?_, ?_, ?_⟩, ?_, ?_, ?_, ?_, ?_⟩
  · intro c hc
    rw [jw_cp_o (by omega), jw_cp_o (by omega), jw_cp_o (by omega), jw_cp_o (by omega), jw_cp_o (by omega), jw_up_out _ _ _ (by omega), jw_up_out _ _ _ (by omega), jw_up_out _ _ _ (by omega)]
  · rw [jw_cp_o (by omega), jw_cp_o (by omega), jw_cp_o (by omega), jw_cp_o (by omega), jw_cp_o (by omega)]
    rfl
  · rw [jw_cp_o (by omega), jw_cp_o (by omega), jw_cp_o (by omega), jw_cp_o (by omega), jw_cp_o (by omega)]
    rfl
  · rw [jw_cp_o (by omega), jw_cp_o (by omega), jw_cp_o (by omega), jw_cp_o (by omega), jw_cp_o (by omega)]
    rfl
  · intro j j0 j1
    simp only [Nat.reduceAdd]
    rw [jw_cp_o (o' := 28) (by omega), jw_cp_o (o' := 28) (by omega), jw_cp_o (o' := 28) (by omega), jw_cp_o (o' := 28) (by omega), jw_cp_i j0 (by omega), show (0 : Int) + (j - 0) = j by omega, jw_up_out _ _ _ (by omega), jw_up_out _ _ _ (by omega), jw_up_out _ _ _ (by omega)]
  · intro j j0 j1
    simp only [Nat.reduceAdd]
    rw [jw_cp_o (o' := 29) (by omega), jw_cp_o (o' := 29) (by omega), jw_cp_o (o' := 29) (by omega), jw_cp_i j0 (by omega), show (0 : Int) + (j - 0) = j by omega, jw_cp_o (o' := 23) (by omega), jw_up_out _ _ _ (by omega), jw_up_out _ _ _ (by omega), jw_up_out _ _ _ (by omega)]
  · intro j j0 j1
    simp only [Nat.reduceAdd]
    rw [jw_cp_o (o' := 30) (by omega), jw_cp_o (o' := 30) (by omega), jw_cp_i j0 (by omega), show (0 : Int) + (j - 0) = j by omega, jw_cp_o (o' := 24) (by omega), jw_cp_o (o' := 24) (by omega), jw_up_out _ _ _ (by omega), jw_up_out _ _ _ (by omega), jw_up_out _ _ _ (by omega)]
  · intro j j0 j1
    simp only [Nat.reduceAdd]
    rw [jw_cp_o (o' := 31) (by omega), jw_cp_i j0 (by omega), show (0 : Int) + (j - 0) = j by omega, jw_cp_o (o' := 25) (by omega), jw_cp_o (o' := 25) (by omega), jw_cp_o (o' := 25) (by omega), jw_up_out _ _ _ (by omega), jw_up_out _ _ _ (by omega), jw_up_out _ _ _ (by omega)]
  · intro j j0 j1
    simp only [Nat.reduceAdd]
    rw [jw_cp_i j0 (by omega), show (0 : Int) + (j - 0) = j by omega, jw_cp_o (o' := 26) (by omega), jw_cp_o (o' := 26) (by omega), jw_cp_o (o' := 26) (by omega), jw_cp_o (o' := 26) (by omega), jw_up_out _ _ _ (by omega), jw_up_out _ _ _ (by omega), jw_up_out _ _ _ (by omega)]
theorem jn_pcopy_15_27 {n : Nat} {σ : jw_H}  : jw_T (js_S n) 1 68 [.inr (.inr 15), .inr (.inr 27)] σ (fun r σ' => r = none ∧ jn_pc σ 27 15 σ') := by
  refine jw_T_of (D := 0) (M := mm_68) rfl (Nat.le_of_ble_eq_true rfl) (ls0 := [some (.inr (.inr 15)), some (.inr (.inr 27))]) rfl ?_ (by rintro _ _ ⟨rfl, -⟩; rfl)
  refine jw_W_n 2 (i' := 2) (ls' := [some (.inr (.inr 15)), some (.inr (.inr 27))]) (st' := [.inr (.inr 27), .inr (.inr 15)]) rfl ?_
  refine jw_W_gf rfl rfl rfl ?_
  show jw_W (js_S n) _ md_68 3 [some (.inr (.inr 15)), some (.inr (.inr 27))] [.inl (σ 27 0), .inr (.inr 15)] σ _
  refine jw_W_pf (a := σ 27 0) rfl (by omega) rfl rfl rfl rfl rfl ?_
  refine jw_W_n 2 (i' := 6) (ls' := [some (.inr (.inr 15)), some (.inr (.inr 27))]) (st' := [.inr (.inr 27), .inr (.inr 15)]) rfl ?_
  refine jw_W_gf rfl rfl rfl ?_
  show jw_W (js_S n) _ md_68 7 [some (.inr (.inr 15)), some (.inr (.inr 27))] [.inl (σ 27 1), .inr (.inr 15)] ((jw_up σ 15 0 (σ 27 0))) _
  refine jw_W_pf (a := σ 27 1) rfl (by omega) rfl rfl rfl rfl rfl ?_
  refine jw_W_n 2 (i' := 10) (ls' := [some (.inr (.inr 15)), some (.inr (.inr 27))]) (st' := [.inr (.inr 27), .inr (.inr 15)]) rfl ?_
  refine jw_W_gf rfl rfl rfl ?_
  show jw_W (js_S n) _ md_68 11 [some (.inr (.inr 15)), some (.inr (.inr 27))] [.inl (σ 27 2), .inr (.inr 15)] ((jw_up (jw_up σ 15 0 (σ 27 0)) 15 1 (σ 27 1))) _
  refine jw_W_pf (a := σ 27 2) rfl (by omega) rfl rfl rfl rfl rfl ?_
  refine jw_W_n 1 (i' := 13) (ls' := [some (.inr (.inr 15)), some (.inr (.inr 27))]) (st' := [.inr (.inr 27)]) rfl ?_
  refine jw_W_gf rfl rfl rfl ?_
  show jw_W (js_S n) _ md_68 14 [some (.inr (.inr 15)), some (.inr (.inr 27))] [.inr (.inr 28)] ((jw_up (jw_up (jw_up σ 15 0 (σ 27 0)) 15 1 (σ 27 1)) 15 2 (σ 27 2))) _
  refine jw_W_n 2 (i' := 16) (ls' := [some (.inr (.inr 15)), some (.inr (.inr 27))]) (st' := [.inr (.inr 15), .inl 0, .inr (.inr 28)]) rfl ?_
  refine jw_W_gf rfl rfl rfl ?_
  show jw_W (js_S n) _ md_68 17 [some (.inr (.inr 15)), some (.inr (.inr 27))] [.inr (.inr 16), .inl 0, .inr (.inr 28)] ((jw_up (jw_up (jw_up σ 15 0 (σ 27 0)) 15 1 (σ 27 1)) 15 2 (σ 27 2))) _
  refine jw_W_n 2 (i' := 19) (ls' := [some (.inr (.inr 15)), some (.inr (.inr 27))]) (st' := [.inl 9, .inl 0, .inr (.inr 16), .inl 0, .inr (.inr 28)]) rfl ?_
  refine jw_W_cp rfl rfl (by omega) rfl rfl (by omega) (by omega) (by omega) (by omega) (by omega) (by omega) (by omega) (Nat.le_of_ble_eq_true rfl) ?_
  refine jw_W_n 1 (i' := 21) (ls' := [some (.inr (.inr 15)), some (.inr (.inr 27))]) (st' := [.inr (.inr 27)]) rfl ?_
  refine jw_W_gf rfl rfl rfl ?_
  show jw_W (js_S n) _ md_68 22 [some (.inr (.inr 15)), some (.inr (.inr 27))] [.inr (.inr 29)] ((jw_cp ((jw_up (jw_up (jw_up σ 15 0 (σ 27 0)) 15 1 (σ 27 1)) 15 2 (σ 27 2))) 28 0 16 0 9)) _
  refine jw_W_n 2 (i' := 24) (ls' := [some (.inr (.inr 15)), some (.inr (.inr 27))]) (st' := [.inr (.inr 15), .inl 0, .inr (.inr 29)]) rfl ?_
  refine jw_W_gf rfl rfl rfl ?_
  show jw_W (js_S n) _ md_68 25 [some (.inr (.inr 15)), some (.inr (.inr 27))] [.inr (.inr 17), .inl 0, .inr (.inr 29)] ((jw_cp ((jw_up (jw_up (jw_up σ 15 0 (σ 27 0)) 15 1 (σ 27 1)) 15 2 (σ 27 2))) 28 0 16 0 9)) _
  refine jw_W_n 2 (i' := 27) (ls' := [some (.inr (.inr 15)), some (.inr (.inr 27))]) (st' := [.inl 12, .inl 0, .inr (.inr 17), .inl 0, .inr (.inr 29)]) rfl ?_
  refine jw_W_cp rfl rfl (by omega) rfl rfl (by omega) (by omega) (by omega) (by omega) (by omega) (by omega) (by omega) (Nat.le_of_ble_eq_true rfl) ?_
  refine jw_W_n 1 (i' := 29) (ls' := [some (.inr (.inr 15)), some (.inr (.inr 27))]) (st' := [.inr (.inr 27)]) rfl ?_
  refine jw_W_gf rfl rfl rfl ?_
  show jw_W (js_S n) _ md_68 30 [some (.inr (.inr 15)), some (.inr (.inr 27))] [.inr (.inr 30)] ((jw_cp ((jw_cp ((jw_up (jw_up (jw_up σ 15 0 (σ 27 0)) 15 1 (σ 27 1)) 15 2 (σ 27 2))) 28 0 16 0 9)) 29 0 17 0 12)) _
  refine jw_W_n 2 (i' := 32) (ls' := [some (.inr (.inr 15)), some (.inr (.inr 27))]) (st' := [.inr (.inr 15), .inl 0, .inr (.inr 30)]) rfl ?_
  refine jw_W_gf rfl rfl rfl ?_
  show jw_W (js_S n) _ md_68 33 [some (.inr (.inr 15)), some (.inr (.inr 27))] [.inr (.inr 18), .inl 0, .inr (.inr 30)] ((jw_cp ((jw_cp ((jw_up (jw_up (jw_up σ 15 0 (σ 27 0)) 15 1 (σ 27 1)) 15 2 (σ 27 2))) 28 0 16 0 9)) 29 0 17 0 12)) _
  refine jw_W_n 2 (i' := 35) (ls' := [some (.inr (.inr 15)), some (.inr (.inr 27))]) (st' := [.inl 4, .inl 0, .inr (.inr 18), .inl 0, .inr (.inr 30)]) rfl ?_
  refine jw_W_cp rfl rfl (by omega) rfl rfl (by omega) (by omega) (by omega) (by omega) (by omega) (by omega) (by omega) (Nat.le_of_ble_eq_true rfl) ?_
  refine jw_W_n 1 (i' := 37) (ls' := [some (.inr (.inr 15)), some (.inr (.inr 27))]) (st' := [.inr (.inr 27)]) rfl ?_
  refine jw_W_gf rfl rfl rfl ?_
  show jw_W (js_S n) _ md_68 38 [some (.inr (.inr 15)), some (.inr (.inr 27))] [.inr (.inr 31)] ((jw_cp ((jw_cp ((jw_cp ((jw_up (jw_up (jw_up σ 15 0 (σ 27 0)) 15 1 (σ 27 1)) 15 2 (σ 27 2))) 28 0 16 0 9)) 29 0 17 0 12)) 30 0 18 0 4)) _
  refine jw_W_n 2 (i' := 40) (ls' := [some (.inr (.inr 15)), some (.inr (.inr 27))]) (st' := [.inr (.inr 15), .inl 0, .inr (.inr 31)]) rfl ?_
  refine jw_W_gf rfl rfl rfl ?_
  show jw_W (js_S n) _ md_68 41 [some (.inr (.inr 15)), some (.inr (.inr 27))] [.inr (.inr 19), .inl 0, .inr (.inr 31)] ((jw_cp ((jw_cp ((jw_cp ((jw_up (jw_up (jw_up σ 15 0 (σ 27 0)) 15 1 (σ 27 1)) 15 2 (σ 27 2))) 28 0 16 0 9)) 29 0 17 0 12)) 30 0 18 0 4)) _
  refine jw_W_n 2 (i' := 43) (ls' := [some (.inr (.inr 15)), some (.inr (.inr 27))]) (st' := [.inl 4, .inl 0, .inr (.inr 19), .inl 0, .inr (.inr 31)]) rfl ?_
  refine jw_W_cp rfl rfl (by omega) rfl rfl (by omega) (by omega) (by omega) (by omega) (by omega) (by omega) (by omega) (Nat.le_of_ble_eq_true rfl) ?_
  refine jw_W_n 1 (i' := 45) (ls' := [some (.inr (.inr 15)), some (.inr (.inr 27))]) (st' := [.inr (.inr 27)]) rfl ?_
  refine jw_W_gf rfl rfl rfl ?_
  show jw_W (js_S n) _ md_68 46 [some (.inr (.inr 15)), some (.inr (.inr 27))] [.inr (.inr 32)] ((jw_cp ((jw_cp ((jw_cp ((jw_cp ((jw_up (jw_up (jw_up σ 15 0 (σ 27 0)) 15 1 (σ 27 1)) 15 2 (σ 27 2))) 28 0 16 0 9)) 29 0 17 0 12)) 30 0 18 0 4)) 31 0 19 0 4)) _
  refine jw_W_n 2 (i' := 48) (ls' := [some (.inr (.inr 15)), some (.inr (.inr 27))]) (st' := [.inr (.inr 15), .inl 0, .inr (.inr 32)]) rfl ?_
  refine jw_W_gf rfl rfl rfl ?_
  show jw_W (js_S n) _ md_68 49 [some (.inr (.inr 15)), some (.inr (.inr 27))] [.inr (.inr 20), .inl 0, .inr (.inr 32)] ((jw_cp ((jw_cp ((jw_cp ((jw_cp ((jw_up (jw_up (jw_up σ 15 0 (σ 27 0)) 15 1 (σ 27 1)) 15 2 (σ 27 2))) 28 0 16 0 9)) 29 0 17 0 12)) 30 0 18 0 4)) 31 0 19 0 4)) _
  refine jw_W_n 2 (i' := 51) (ls' := [some (.inr (.inr 15)), some (.inr (.inr 27))]) (st' := [.inl 3, .inl 0, .inr (.inr 20), .inl 0, .inr (.inr 32)]) rfl ?_
  refine jw_W_cp rfl rfl (by omega) rfl rfl (by omega) (by omega) (by omega) (by omega) (by omega) (by omega) (by omega) (Nat.le_of_ble_eq_true rfl) ?_
  refine jw_W_re rfl ?_
  refine ⟨rfl, ?_, ⟨?_, ?_, ?_⟩, ?_, ?_, ?_, ?_, ?_⟩
  · intro c hc
    rw [jw_cp_o (by omega), jw_cp_o (by omega), jw_cp_o (by omega), jw_cp_o (by omega), jw_cp_o (by omega), jw_up_out _ _ _ (by omega), jw_up_out _ _ _ (by omega), jw_up_out _ _ _ (by omega)]
  · rw [jw_cp_o (by omega), jw_cp_o (by omega), jw_cp_o (by omega), jw_cp_o (by omega), jw_cp_o (by omega)]
    rfl
  · rw [jw_cp_o (by omega), jw_cp_o (by omega), jw_cp_o (by omega), jw_cp_o (by omega), jw_cp_o (by omega)]
    rfl
  · rw [jw_cp_o (by omega), jw_cp_o (by omega), jw_cp_o (by omega), jw_cp_o (by omega), jw_cp_o (by omega)]
    rfl
  · intro j j0 j1
    simp only [Nat.reduceAdd]
    rw [jw_cp_o (o' := 16) (by omega), jw_cp_o (o' := 16) (by omega), jw_cp_o (o' := 16) (by omega), jw_cp_o (o' := 16) (by omega), jw_cp_i j0 (by omega), show (0 : Int) + (j - 0) = j by omega, jw_up_out _ _ _ (by omega), jw_up_out _ _ _ (by omega), jw_up_out _ _ _ (by omega)]
  · intro j j0 j1
    simp only [Nat.reduceAdd]
    rw [jw_cp_o (o' := 17) (by omega), jw_cp_o (o' := 17) (by omega), jw_cp_o (o' := 17) (by omega), jw_cp_i j0 (by omega), show (0 : Int) + (j - 0) = j by omega, jw_cp_o (o' := 29) (by omega), jw_up_out _ _ _ (by omega), jw_up_out _ _ _ (by omega), jw_up_out _ _ _ (by omega)]
  · intro j j0 j1
    simp only [Nat.reduceAdd]
    rw [jw_cp_o (o' := 18) (by omega), jw_cp_o (o' := 18) (by omega), jw_cp_i j0 (by omega), show (0 : Int) + (j - 0) = j by omega, jw_cp_o (o' := 30) (by omega), jw_cp_o (o' := 30) (by omega), jw_up_out _ _ _ (by omega), jw_up_out _ _ _ (by omega), jw_up_out _ _ _ (by omega)]
  · intro j j0 j1
    simp only [Nat.reduceAdd]
    rw [jw_cp_o (o' := 19) (by omega), jw_cp_i j0 (by omega), show (0 : Int) + (j - 0) = j by omega, jw_cp_o (o' := 31) (by omega), jw_cp_o (o' := 31) (by omega), jw_cp_o (o' := 31) (by omega), jw_up_out _ _ _ (by omega), jw_up_out _ _ _ (by omega), jw_up_out _ _ _ (by omega)]
  · intro j j0 j1
    simp only [Nat.reduceAdd]
    rw [jw_cp_i j0 (by omega), show (0 : Int) + (j - 0) = j by omega, jw_cp_o (o' := 32) (by omega), jw_cp_o (o' := 32) (by omega), jw_cp_o (o' := 32) (by omega), jw_cp_o (o' := 32) (by omega), jw_up_out _ _ _ (by omega), jw_up_out _ _ _ (by omega), jw_up_out _ _ _ (by omega)]
theorem jn_pcopy_21_27 {n : Nat} {σ : jw_H}  : jw_T (js_S n) 1 68 [.inr (.inr 21), .inr (.inr 27)] σ (fun r σ' => r = none ∧ jn_pc σ 27 21 σ') := by
  refine jw_T_of (D := 0) (M := mm_68) rfl (Nat.le_of_ble_eq_true rfl) (ls0 := [some (.inr (.inr 21)), some (.inr (.inr 27))]) rfl ?_ (by rintro _ _ ⟨rfl, -⟩; rfl)
  refine jw_W_n 2 (i' := 2) (ls' := [some (.inr (.inr 21)), some (.inr (.inr 27))]) (st' := [.inr (.inr 27), .inr (.inr 21)]) rfl ?_
  refine jw_W_gf rfl rfl rfl ?_
  show jw_W (js_S n) _ md_68 3 [some (.inr (.inr 21)), some (.inr (.inr 27))] [.inl (σ 27 0), .inr (.inr 21)] σ _
  refine jw_W_pf (a := σ 27 0) rfl (by omega) rfl rfl rfl rfl rfl ?_
  refine jw_W_n 2 (i' := 6) (ls' := [some (.inr (.inr 21)), some (.inr (.inr 27))]) (st' := [.inr (.inr 27), .inr (.inr 21)]) rfl ?_
  refine jw_W_gf rfl rfl rfl ?_
  show jw_W (js_S n) _ md_68 7 [some (.inr (.inr 21)), some (.inr (.inr 27))] [.inl (σ 27 1), .inr (.inr 21)] ((jw_up σ 21 0 (σ 27 0))) _
  refine jw_W_pf (a := σ 27 1) rfl (by omega) rfl rfl rfl rfl rfl ?_
  refine jw_W_n 2 (i' := 10) (ls' := [some (.inr (.inr 21)), some (.inr (.inr 27))]) (st' := [.inr (.inr 27), .inr (.inr 21)]) rfl ?_
  refine jw_W_gf rfl rfl rfl ?_
  show jw_W (js_S n) _ md_68 11 [some (.inr (.inr 21)), some (.inr (.inr 27))] [.inl (σ 27 2), .inr (.inr 21)] ((jw_up (jw_up σ 21 0 (σ 27 0)) 21 1 (σ 27 1))) _
  refine jw_W_pf (a := σ 27 2) rfl (by omega) rfl rfl rfl rfl rfl ?_
  refine jw_W_n 1 (i' := 13) (ls' := [some (.inr (.inr 21)), some (.inr (.inr 27))]) (st' := [.inr (.inr 27)]) rfl ?_
  refine jw_W_gf rfl rfl rfl ?_
  show jw_W (js_S n) _ md_68 14 [some (.inr (.inr 21)), some (.inr (.inr 27))] [.inr (.inr 28)] ((jw_up (jw_up (jw_up σ 21 0 (σ 27 0)) 21 1 (σ 27 1)) 21 2 (σ 27 2))) _
  refine jw_W_n 2 (i' := 16) (ls' := [some (.inr (.inr 21)), some (.inr (.inr 27))]) (st' := [.inr (.inr 21), .inl 0, .inr (.inr 28)]) rfl ?_
  refine jw_W_gf rfl rfl rfl ?_
  show jw_W (js_S n) _ md_68 17 [some (.inr (.inr 21)), some (.inr (.inr 27))] [.inr (.inr 22), .inl 0, .inr (.inr 28)] ((jw_up (jw_up (jw_up σ 21 0 (σ 27 0)) 21 1 (σ 27 1)) 21 2 (σ 27 2))) _
  refine jw_W_n 2 (i' := 19) (ls' := [some (.inr (.inr 21)), some (.inr (.inr 27))]) (st' := [.inl 9, .inl 0, .inr (.inr 22), .inl 0, .inr (.inr 28)]) rfl ?_
  refine jw_W_cp rfl rfl (by omega) rfl rfl (by omega) (by omega) (by omega) (by omega) (by omega) (by omega) (by omega) (Nat.le_of_ble_eq_true rfl) ?_
  refine jw_W_n 1 (i' := 21) (ls' := [some (.inr (.inr 21)), some (.inr (.inr 27))]) (st' := [.inr (.inr 27)]) rfl ?_
  refine jw_W_gf rfl rfl rfl ?_
  show jw_W (js_S n) _ md_68 22 [some (.inr (.inr 21)), some (.inr (.inr 27))] [.inr (.inr 29)] ((jw_cp ((jw_up (jw_up (jw_up σ 21 0 (σ 27 0)) 21 1 (σ 27 1)) 21 2 (σ 27 2))) 28 0 22 0 9)) _
  refine jw_W_n 2 (i' := 24) (ls' := [some (.inr (.inr 21)), some (.inr (.inr 27))]) (st' := [.inr (.inr 21), .inl 0, .inr (.inr 29)]) rfl ?_
  refine jw_W_gf rfl rfl rfl ?_
  show jw_W (js_S n) _ md_68 25 [some (.inr (.inr 21)), some (.inr (.inr 27))] [.inr (.inr 23), .inl 0, .inr (.inr 29)] ((jw_cp ((jw_up (jw_up (jw_up σ 21 0 (σ 27 0)) 21 1 (σ 27 1)) 21 2 (σ 27 2))) 28 0 22 0 9)) _
  refine jw_W_n 2 (i' := 27) (ls' := [some (.inr (.inr 21)), some (.inr (.inr 27))]) (st' := [.inl 12, .inl 0, .inr (.inr 23), .inl 0, .inr (.inr 29)]) rfl ?_
  refine jw_W_cp rfl rfl (by omega) rfl rfl (by omega) (by omega) (by omega) (by omega) (by omega) (by omega) (by omega) (Nat.le_of_ble_eq_true rfl) ?_
  refine jw_W_n 1 (i' := 29) (ls' := [some (.inr (.inr 21)), some (.inr (.inr 27))]) (st' := [.inr (.inr 27)]) rfl ?_
  refine jw_W_gf rfl rfl rfl ?_
  show jw_W (js_S n) _ md_68 30 [some (.inr (.inr 21)), some (.inr (.inr 27))] [.inr (.inr 30)] ((jw_cp ((jw_cp ((jw_up (jw_up (jw_up σ 21 0 (σ 27 0)) 21 1 (σ 27 1)) 21 2 (σ 27 2))) 28 0 22 0 9)) 29 0 23 0 12)) _
  refine jw_W_n 2 (i' := 32) (ls' := [some (.inr (.inr 21)), some (.inr (.inr 27))]) (st' := [.inr (.inr 21), .inl 0, .inr (.inr 30)]) rfl ?_
  refine jw_W_gf rfl rfl rfl ?_
  show jw_W (js_S n) _ md_68 33 [some (.inr (.inr 21)), some (.inr (.inr 27))] [.inr (.inr 24), .inl 0, .inr (.inr 30)] ((jw_cp ((jw_cp ((jw_up (jw_up (jw_up σ 21 0 (σ 27 0)) 21 1 (σ 27 1)) 21 2 (σ 27 2))) 28 0 22 0 9)) 29 0 23 0 12)) _
  refine jw_W_n 2 (i' := 35) (ls' := [some (.inr (.inr 21)), some (.inr (.inr 27))]) (st' := [.inl 4, .inl 0, .inr (.inr 24), .inl 0, .inr (.inr 30)]) rfl ?_
  refine jw_W_cp rfl rfl (by omega) rfl rfl (by omega) (by omega) (by omega) (by omega) (by omega) (by omega) (by omega) (Nat.le_of_ble_eq_true rfl) ?_
  refine jw_W_n 1 (i' := 37) (ls' := [some (.inr (.inr 21)), some (.inr (.inr 27))]) (st' := [.inr (.inr 27)]) rfl ?_
  refine jw_W_gf rfl rfl rfl ?_
  show jw_W (js_S n) _ md_68 38 [some (.inr (.inr 21)), some (.inr (.inr 27))] [.inr (.inr 31)] ((jw_cp ((jw_cp ((jw_cp ((jw_up (jw_up (jw_up σ 21 0 (σ 27 0)) 21 1 (σ 27 1)) 21 2 (σ 27 2))) 28 0 22 0 9)) 29 0 23 0 12)) 30 0 24 0 4)) _
  refine jw_W_n 2 (i' := 40) (ls' := [some (.inr (.inr 21)), some (.inr (.inr 27))]) (st' := [.inr (.inr 21), .inl 0, .inr (.inr 31)]) rfl ?_
  refine jw_W_gf rfl rfl rfl ?_
  show jw_W (js_S n) _ md_68 41 [some (.inr (.inr 21)), some (.inr (.inr 27))] [.inr (.inr 25), .inl 0, .inr (.inr 31)] ((jw_cp ((jw_cp ((jw_cp ((jw_up (jw_up (jw_up σ 21 0 (σ 27 0)) 21 1 (σ 27 1)) 21 2 (σ 27 2))) 28 0 22 0 9)) 29 0 23 0 12)) 30 0 24 0 4)) _
  refine jw_W_n 2 (i' := 43) (ls' := [some (.inr (.inr 21)), some (.inr (.inr 27))]) (st' := [.inl 4, .inl 0, .inr (.inr 25), .inl 0, .inr (.inr 31)]) rfl ?_
  refine jw_W_cp rfl rfl (by omega) rfl rfl (by omega) (by omega) (by omega) (by omega) (by omega) (by omega) (by omega) (Nat.le_of_ble_eq_true rfl) ?_
  refine jw_W_n 1 (i' := 45) (ls' := [some (.inr (.inr 21)), some (.inr (.inr 27))]) (st' := [.inr (.inr 27)]) rfl ?_
  refine jw_W_gf rfl rfl rfl ?_
  show jw_W (js_S n) _ md_68 46 [some (.inr (.inr 21)), some (.inr (.inr 27))] [.inr (.inr 32)] ((jw_cp ((jw_cp ((jw_cp ((jw_cp ((jw_up (jw_up (jw_up σ 21 0 (σ 27 0)) 21 1 (σ 27 1)) 21 2 (σ 27 2))) 28 0 22 0 9)) 29 0 23 0 12)) 30 0 24 0 4)) 31 0 25 0 4)) _
  refine jw_W_n 2 (i' := 48) (ls' := [some (.inr (.inr 21)), some (.inr (.inr 27))]) (st' := [.inr (.inr 21), .inl 0, .inr (.inr 32)]) rfl ?_
  refine jw_W_gf rfl rfl rfl ?_
  show jw_W (js_S n) _ md_68 49 [some (.inr (.inr 21)), some (.inr (.inr 27))] [.inr (.inr 26), .inl 0, .inr (.inr 32)] ((jw_cp ((jw_cp ((jw_cp ((jw_cp ((jw_up (jw_up (jw_up σ 21 0 (σ 27 0)) 21 1 (σ 27 1)) 21 2 (σ 27 2))) 28 0 22 0 9)) 29 0 23 0 12)) 30 0 24 0 4)) 31 0 25 0 4)) _
  refine jw_W_n 2 (i' := 51) (ls' := [some (.inr (.inr 21)), some (.inr (.inr 27))]) (st' := [.inl 3, .inl 0, .inr (.inr 26), .inl 0, .inr (.inr 32)]) rfl ?_
  refine jw_W_cp rfl rfl (by omega) rfl rfl (by omega) (by omega) (by omega) (by omega) (by omega) (by omega) (by omega) (Nat.le_of_ble_eq_true rfl) ?_
  refine jw_W_re rfl ?_
  refine ⟨rfl, ?_, ⟨?_, ?_, ?_⟩, ?_, ?_, ?_, ?_, ?_⟩
  · intro c hc
    rw [jw_cp_o (by omega), jw_cp_o (by omega), jw_cp_o (by omega), jw_cp_o (by omega), jw_cp_o (by omega), jw_up_out _ _ _ (by omega), jw_up_out _ _ _ (by omega), jw_up_out _ _ _ (by omega)]
  · rw [jw_cp_o (by omega), jw_cp_o (by omega), jw_cp_o (by omega), jw_cp_o (by omega), jw_cp_o (by omega)]
    rfl
  · rw [jw_cp_o (by omega), jw_cp_o (by omega), jw_cp_o (by omega), jw_cp_o (by omega), jw_cp_o (by omega)]
    rfl
  · rw [jw_cp_o (by omega), jw_cp_o (by omega), jw_cp_o (by omega), jw_cp_o (by omega), jw_cp_o (by omega)]
    rfl
  · intro j j0 j1
    simp only [Nat.reduceAdd]
    rw [jw_cp_o (o' := 22) (by omega), jw_cp_o (o' := 22) (by omega), jw_cp_o (o' := 22) (by omega), jw_cp_o (o' := 22) (by omega), jw_cp_i j0 (by omega), show (0 : Int) + (j - 0) = j by omega, jw_up_out _ _ _ (by omega), jw_up_out _ _ _ (by omega), jw_up_out _ _ _ (by omega)]
  · intro j j0 j1
    simp only [Nat.reduceAdd]
    rw [jw_cp_o (o' := 23) (by omega), jw_cp_o (o' := 23) (by omega), jw_cp_o (o' := 23) (by omega), jw_cp_i j0 (by omega), show (0 : Int) + (j - 0) = j by omega, jw_cp_o (o' := 29) (by omega), jw_up_out _ _ _ (by omega), jw_up_out _ _ _ (by omega), jw_up_out _ _ _ (by omega)]
  · intro j j0 j1
    simp only [Nat.reduceAdd]
    rw [jw_cp_o (o' := 24) (by omega), jw_cp_o (o' := 24) (by omega), jw_cp_i j0 (by omega), show (0 : Int) + (j - 0) = j by omega, jw_cp_o (o' := 30) (by omega), jw_cp_o (o' := 30) (by omega), jw_up_out _ _ _ (by omega), jw_up_out _ _ _ (by omega), jw_up_out _ _ _ (by omega)]
  · intro j j0 j1
    simp only [Nat.reduceAdd]
    rw [jw_cp_o (o' := 25) (by omega), jw_cp_i j0 (by omega), show (0 : Int) + (j - 0) = j by omega, jw_cp_o (o' := 31) (by omega), jw_cp_o (o' := 31) (by omega), jw_cp_o (o' := 31) (by omega), jw_up_out _ _ _ (by omega), jw_up_out _ _ _ (by omega), jw_up_out _ _ _ (by omega)]
  · intro j j0 j1
    simp only [Nat.reduceAdd]
    rw [jw_cp_i j0 (by omega), show (0 : Int) + (j - 0) = j by omega, jw_cp_o (o' := 32) (by omega), jw_cp_o (o' := 32) (by omega), jw_cp_o (o' := 32) (by omega), jw_cp_o (o' := 32) (by omega), jw_up_out _ _ _ (by omega), jw_up_out _ _ _ (by omega), jw_up_out _ _ _ (by omega)]
theorem jn_pcopy {n : Nat} {σ : jw_H} {s d : Nat} (hs : s = 15 ∨ s = 21 ∨ s = 27) (hd : d = 15 ∨ d = 21 ∨ d = 27) (h : s = 27 ∧ d ≠ 27 ∨ d = 27 ∧ s ≠ 27) : jw_T (js_S n) 1 68 [.inr (.inr d), .inr (.inr s)] σ (fun r σ' => r = none ∧ jn_pc σ s d σ') := by
  rcases hs with rfl | rfl | rfl <;> rcases hd with rfl | rfl | rfl
  · exfalso; omega
  · exfalso; omega
  · exact jn_pcopy_27_15
  · exfalso; omega
  · exfalso; omega
  · exact jn_pcopy_27_21
  · exact jn_pcopy_15_27
  · exact jn_pcopy_21_27
  · exfalso; omega

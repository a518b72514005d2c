/-! ===== the reference tells what is efficient ===== -/
/-- a better plan is allowed -/
def jm_Ef (σ : jw_H) (p : ge_R) : Prop := ∃ q, ge_F (jm_RR (σ 103 3) (jm_bA σ)) q ∧ ge_bt (jm_F σ) p q
theorem ge_f_s4 (f : ge_D) (T : Int) (q : ge_R) : ge_f f (ge_s4 T q) = T * ge_f f q := by
  simp only [ge_f, ge_s4]
  grind
theorem jm_Ef_T {σ : jw_H} {T x y z : Int} (T0 : 0 < T) : jm_Ef σ (x, y, z, T) ↔ ∃ q, ge_F (jm_RR (σ 103 3) (jm_bT T (jm_bA σ))) q ∧ ge_bt (jm_F σ) (x, y, z, 1) q := by
  have e1 : ∀ f : ge_D, ge_f f (x, y, z, T) = ge_f f (x, y, z, 1) := fun f => rfl
  constructor
  · rintro ⟨q, hq, h1, f, hf, h2⟩
    refine ⟨ge_s4 T q, (ge_F_T T0).mpr hq, fun g hg => ?_, f, hf, ?_⟩
    · have := h1 g hg
      rw [ge_f_s4, ← e1, Int.mul_one, Int.mul_comm T]
      exact this
    · rw [ge_f_s4, ← e1, Int.mul_one, Int.mul_comm T]
      exact h2
  · rintro ⟨q, hq, h1, f, hf, h2⟩
    have wq := hq.1
    have hw : 0 < T * q.2.2.2 := Int.mul_pos T0 wq
    have es : ge_s4 T (q.1, q.2.1, q.2.2.1, T * q.2.2.2) = (T * q.1, T * q.2.1, T * q.2.2.1, T * q.2.2.2) := rfl
    have hF : ge_F (jm_RR (σ 103 3) (jm_bT T (jm_bA σ))) (ge_s4 T (q.1, q.2.1, q.2.2.1, T * q.2.2.2)) := by
      refine ⟨hw, fun r hr => ?_⟩
      have := hq.2 r hr
      have e : ge_s r (ge_s4 T (q.1, q.2.1, q.2.2.1, T * q.2.2.2)) = T * ge_s r q := by
        rw [es]
        simp only [ge_s]
        grind
      rw [e]
      exact ge_mul_pn (Int.le_of_lt T0) this
    refine ⟨(q.1, q.2.1, q.2.2.1, T * q.2.2.2), (ge_F_T T0).mp hF, fun g hg => ?_, f, hf, ?_⟩
    · have := h1 g hg
      have a := Int.mul_le_mul_of_nonneg_right this (Int.le_of_lt T0)
      have e2 : ge_f g (q.1, q.2.1, q.2.2.1, T * q.2.2.2) = ge_f g q := rfl
      rw [e1, e2]
      simp only [Int.mul_one] at a ⊢
      have e3 : ge_f g (x, y, z, 1) * q.2.2.2 * T = ge_f g (x, y, z, 1) * (T * q.2.2.2) := by grind
      omega
    · have a := Int.mul_lt_mul_of_pos_right h2 T0
      have e2 : ge_f f (q.1, q.2.1, q.2.2.1, T * q.2.2.2) = ge_f f q := rfl
      rw [e1, e2]
      simp only [Int.mul_one] at a ⊢
      have e3 : ge_f f (x, y, z, 1) * q.2.2.2 * T = ge_f f (x, y, z, 1) * (T * q.2.2.2) := by grind
      omega
theorem jm_F_bd {σ : jw_H} {p : ge_R} (hP : jm_Pb σ) (hF : ge_F (jm_RR (σ 103 3) (jm_bA σ)) p) : (0 ≤ p.1 ∧ p.1 ≤ 9 * p.2.2.2) ∧ (0 ≤ p.2.1 ∧ p.2.1 ≤ 9 * p.2.2.2) ∧ (0 ≤ p.2.2.1 ∧ p.2.2.1 ≤ 9 * p.2.2.2) := by
  have hk5 := hP.2.2.1
  have hbnd := jm_bk_bnd (wo := -1) (mo := -1) hP (k := (σ 103 5).toNat) (by omega)
  obtain ⟨⟨q1, q2⟩, -, -, -, hB, -⟩ := hP
  have ax := jm_vr_z hF
  have w0 := hF.1
  have row : ∀ i : Nat, i < (σ 103 3).toNat → ge_s (jm_lo i) p ≤ 0 ∧ ge_s (jm_hi i (jm_Bs σ i)) p ≤ 0 := fun i hi => ⟨hF.2 _ (List.mem_append_left _ (List.mem_map.mpr ⟨_, hbnd.2 _ (jm_be_mem.mpr ⟨i, hi, .inl ⟨rfl, rfl⟩⟩), rfl⟩)), hF.2 _ (List.mem_append_left _ (List.mem_map.mpr ⟨_, hbnd.2 _ (jm_be_mem.mpr ⟨i, hi, .inr ⟨rfl, rfl⟩⟩), rfl⟩))⟩
  have mulB : ∀ i : Nat, i < 3 → jm_Bs σ i * p.2.2.2 ≤ 9 * p.2.2.2 := fun i hi => Int.mul_le_mul_of_nonneg_right (hB (i : Int) (by omega) (by omega)).2 (Int.le_of_lt w0)
  refine ⟨?_, ?_, ?_⟩
  · obtain ⟨h1, h2⟩ := row 0 (by omega)
    have := mulB 0 (by omega)
    simp [ge_s, jm_lo, jm_hi, jm_ei] at h1 h2
    omega
  · by_cases hq : σ 103 3 ≤ 1
    · have := ax.2 hq
      omega
    · obtain ⟨h1, h2⟩ := row 1 (by omega)
      have := mulB 1 (by omega)
      simp [ge_s, jm_lo, jm_hi, jm_ei] at h1 h2
      omega
  · by_cases hq : σ 103 3 ≤ 2
    · have := ax.1 hq
      omega
    · obtain ⟨h1, h2⟩ := row 2 (by omega)
      have := mulB 2 (by omega)
      simp [ge_s, jm_lo, jm_hi, jm_ei] at h1 h2
      omega
theorem jm_Aw_sum (σ : jw_H) (v : ge_R) : jm_Aw σ v = ge_f (ge_sum (jm_F σ)) v := jm_aw_sum σ v _
theorem jm_Aw_e {σ : jw_H} {p q : ge_R} (h : ge_e p q) : jm_Aw σ p * q.2.2.2 = jm_Aw σ q * p.2.2.2 := by
  rw [jm_Aw_sum, jm_Aw_sum]
  generalize ge_sum (jm_F σ) = f
  obtain ⟨h1, h2, h3⟩ := h
  simp only [ge_f]
  grind
theorem jm_wb_up {σ : jw_H} {T : Int} {p : ge_R} (r : ge_R) : r ∈ jm_RR (σ 103 3) (jm_wb σ T p (σ 103 4).toNat) ↔ r ∈ ge_up_R (jm_RR (σ 103 3) (jm_bT T (jm_bA σ))) (jm_F σ) p := by
  constructor
  · intro h
    rcases List.mem_append.mp h with h | h
    · obtain ⟨z, hz, rfl⟩ := List.mem_map.mp h
      rcases jm_wb_mem.mp (show (z.1, z.2) ∈ _ from hz) with ⟨i, h1, h2, h3⟩ | h
      · exact List.mem_append_left _ (List.mem_map.mpr ⟨jm_W σ (i : Int), List.mem_map.mpr ⟨i, List.mem_range.mpr h1, rfl⟩, h3.symm⟩)
      · exact List.mem_append_right _ (List.mem_append_left _ (List.mem_map.mpr ⟨_, h, rfl⟩))
    · exact List.mem_append_right _ (List.mem_append_right _ h)
  · intro h
    rcases List.mem_append.mp h with h | h
    · obtain ⟨f, hf, rfl⟩ := List.mem_map.mp h
      obtain ⟨i, hi, rfl⟩ := List.mem_map.mp hf
      exact List.mem_append_left _ (List.mem_map.mpr ⟨(12 + i, _), jm_wb_mem.mpr (.inl ⟨i, List.mem_range.mp hi, rfl, rfl⟩), rfl⟩)
    · rcases List.mem_append.mp h with h | h
      · obtain ⟨z, hz, rfl⟩ := List.mem_map.mp h
        exact List.mem_append_left _ (List.mem_map.mpr ⟨z, jm_wb_mem.mpr (.inr (show (z.1, z.2) ∈ _ from hz)), rfl⟩)
      · exact List.mem_append_right _ h
theorem jm_Aw_fr {σ σ1 : jw_H} (a : jm_fr2 σ σ1) (v : ge_R) : jm_Aw σ1 v = jm_Aw σ v := by
  have e : jm_F σ1 = jm_F σ := by
    simp only [jm_F, a.2 4 (by omega), jm_W_fr a]
  rw [jm_Aw_sum, jm_Aw_sum, e]
theorem ge_Bd_len {R : List ge_R} {τ : ge_R → Int → Prop} {L : List (ge_R × Int)} (H : ge_Bd R τ L) : L.length ≤ 2 * R.length := by
  have h := ge_count (R := R) (Ps := L.map Prod.fst) (fun p hp => by
    obtain ⟨x, hx, rfl⟩ := List.mem_map.mp hp
    exact (H.1 x hx).1) (List.pairwise_map.mpr H.2.2)
  rw [List.length_map] at h
  exact h
theorem jm_cb_pb {σ σ1 : jw_H} {T : Int} {p : ge_R} (hP : jm_Pb σ) (T0 : 0 < T) (T1 : T ≤ 262440) (H : jm_cb σ T p σ1 (σ 103 4)) : jm_pb σ1 ∧ ∃ L, jm_is σ1 L ∧ (∀ x ∈ L, ge_V (ge_up_R (jm_RR (σ 103 3) (jm_bT T (jm_bA σ))) (jm_F σ) p) x.1) ∧ ∀ v, ge_V (ge_up_R (jm_RR (σ 103 3) (jm_bT T (jm_bA σ))) (jm_F σ) p) v → ∃ x ∈ L, ge_e x.1 v := by
  obtain ⟨fr, L, hL⟩ := H
  have hw := hP.2.1
  have e3 : σ1 103 3 = σ 103 3 := fr.2 3 (by omega)
  obtain ⟨hI, hBd, hB, -⟩ := hL
  rw [e3] at hBd hB
  have hlen := jm_wb_len (T := T) (p := p) hP (σ 103 4).toNat
  have hl := ge_Bd_len hBd
  refine ⟨⟨⟨by rw [hI.1]; omega, by rw [hI.1]; omega⟩, fun i i0 i1 => ?_⟩, L, hI, fun x hx => (ge_V_iff jm_wb_up _).mp (hBd.1 x hx).1, fun v hv => hBd.2.1 v ((ge_V_iff jm_wb_up _).mpr hv)⟩
  rw [hI.1] at i1
  have h3 : i.toNat < L.length := by omega
  have hx := List.getElem?_eq_getElem h3
  have e := (hI.2 _ _ hx).1
  rw [Int.toNat_of_nonneg i0] at e
  obtain ⟨v1, v2, -⟩ := hBd.1 _ (List.getElem_mem h3)
  obtain ⟨b1, b2⟩ := jm_V_bdT (T := T) (p := p) (k := (σ 103 4).toNat) hP T0 (by omega) v1 v2
  rw [e]
  refine ⟨?_, b2⟩
  unfold jm_in4 at *
  omega
theorem jm_eff_eq {σ σ1 : jw_H} {T x y z b : Int} (hP : jm_Pb σ) (hI : jm_fr2 σ σ1) (T0 : 0 < T) (hp : ge_F (jm_RR (σ 103 3) (jm_bA σ)) (x, y, z, T)) (hm : ∃ L, jm_is σ1 L ∧ (∀ x' ∈ L, ge_V (ge_up_R (jm_RR (σ 103 3) (jm_bT T (jm_bA σ))) (jm_F σ) (x, y, z, 1)) x'.1) ∧ ∀ v, ge_V (ge_up_R (jm_RR (σ 103 3) (jm_bT T (jm_bA σ))) (jm_F σ) (x, y, z, 1)) v → ∃ x' ∈ L, ge_e x'.1 v) (b0 : 0 ≤ b) (bm : b < σ1 103 46 ∨ b = 0) (hb : ∀ i, 0 ≤ i → i < σ1 103 46 → jm_bs σ1 (jm_pt σ1 b) (jm_pt σ1 i)) : (jm_Aw σ1 (jm_pt σ1 b) = jm_Aw σ (x, y, z, 1) * σ1 128 b ↔ ¬ jm_Ef σ (x, y, z, T)) ∧ b < σ1 103 46 := by
  have hB : ge_B (jm_RR (σ 103 3) (jm_bT T (jm_bA σ))) := ge_B_T (jm_bA_B hP)
  have hpT : ge_F (jm_RR (σ 103 3) (jm_bT T (jm_bA σ))) (x, y, z, 1) := by
    have h := (ge_F_T T0).mpr hp
    refine ⟨by show (0 : Int) < 1; omega, fun r hr => ?_⟩
    have h2 := h.2 r hr
    have e : ge_s r (ge_s4 T (x, y, z, T)) = T * ge_s r (x, y, z, 1) := by
      simp only [ge_s, ge_s4]
      grind
    rw [e] at h2
    apply Classical.byContradiction
    intro hc
    have := Int.mul_pos T0 (show 0 < ge_s r (x, y, z, 1) by omega)
    omega
  have hE := ge_eff hB (F := jm_F σ) (p := (x, y, z, 1)) rfl hpT
  rw [← jm_Ef_T T0] at hE
  obtain ⟨L, hL, hV, hA⟩ := hm
  have at' : ∀ x' ∈ L, ∃ i : Int, 0 ≤ i ∧ i < σ1 103 46 ∧ jm_pt σ1 i = x'.1 := fun x' hx => by
    obtain ⟨i, hi⟩ := List.getElem?_of_mem hx
    have := (List.getElem?_eq_some_iff.mp hi).1
    exact ⟨(i : Int), by omega, by rw [hL.1]; omega, (hL.2 i x' hi).1⟩
  have bl : b < σ1 103 46 := by
    obtain ⟨v, h1, -⟩ := ge_vert (ge_B_app (Q := (jm_F σ).map (fun f => ge_no f (x, y, z, 1))) hB) (ge_sum (jm_F σ)) ((ge_up_F rfl).mpr ⟨hpT, fun f hf => Int.le_refl _⟩)
    obtain ⟨x', hx', -⟩ := hA v h1
    obtain ⟨i, i0, i1, -⟩ := at' x' hx'
    omega
  refine ⟨?_, bl⟩
  have h3 : b.toNat < L.length := by have := hL.1; omega
  have hbx := (hL.2 _ _ (List.getElem?_eq_getElem h3)).1
  rw [Int.toNat_of_nonneg b0] at hbx
  have hVb := hV _ (List.getElem_mem h3)
  rw [← hbx] at hVb
  have wb := hVb.1.1
  have hle := ge_sum_le ((ge_up_F (F := jm_F σ) (p := (x, y, z, 1)) rfl).mp hVb.1).2
  rw [← jm_Aw_sum, ← jm_Aw_sum] at hle
  have e128 : (jm_pt σ1 b).2.2.2 = σ1 128 b := rfl
  have hfr := jm_Aw_fr hI
  rw [hfr]
  simp only [e128, Int.mul_one] at hle
  have hnE : jm_Ef σ (x, y, z, T) ↔ jm_Aw σ (x, y, z, 1) * σ1 128 b < jm_Aw σ (jm_pt σ1 b) := by
    constructor
    · intro h
      obtain ⟨v, hv, hl⟩ := hE.mp h
      obtain ⟨x', hx', he⟩ := hA v hv
      obtain ⟨i, i0, i1, hi⟩ := at' x' hx'
      have h5 := jm_bs_le (hb i i0 i1)
      rw [hfr, hfr, hi] at h5
      have wx := (hV x' hx').1.1
      have h6 := jm_Aw_e (σ := σ) he
      rw [← jm_Aw_sum, ← jm_Aw_sum] at hl
      have h7 := ge_fr_lt (a := jm_Aw σ (x, y, z, 1)) (n := 1) (b := jm_Aw σ v) (m := v.2.2.2) (c := jm_Aw σ x'.1) (k := x'.1.2.2.2) (by omega) hv.1.1 wx (by simp only [Int.mul_one] at hl ⊢; omega) (by omega) (.inl (by simp only [Int.mul_one] at hl ⊢; omega))
      have h8 := ge_fr_lt (a := jm_Aw σ (x, y, z, 1)) (n := 1) (b := jm_Aw σ x'.1) (m := x'.1.2.2.2) (c := jm_Aw σ (jm_pt σ1 b)) (k := σ1 128 b) (by omega) wx wb (by omega) h5 (.inl h7)
      omega
    · intro h
      refine hE.mpr ⟨jm_pt σ1 b, hVb, ?_⟩
      rw [← jm_Aw_sum, ← jm_Aw_sum]
      simp only [e128, Int.mul_one]
      exact h
  rw [hnE]
  omega
/-- what cutting leaves as it was; the normals are the body's -/
def jm_fe (σ σ' : jw_H) : Prop := jm_fr2 σ σ' ∧ jm_Ns σ' ∧ jm_nrm σ' (jm_bA σ)
theorem jm_cb_fe {σ σ1 : jw_H} {T : Int} {p : ge_R} {k : Int} (H : jm_cb σ T p σ1 k) : jm_fe σ σ1 := by
  obtain ⟨fr, L, -, -, -, hn, hN, -⟩ := H
  exact ⟨fr, hN, fun b r hr => hn b (ge_sr T r) (jm_wb_mem.mpr (.inr (jm_bT_mem.mpr ⟨r, hr, rfl⟩)))⟩
theorem jm_eff_loop {n : Nat} {σ3 : jw_H} {D : Nat} {x y z T b : Int} {Q : Option jw_V → jw_H → Prop} (hD : 1 ≤ D) (hP1 : jm_Pb σ3) (hQ : jw_W (js_S n) D md_252 28 [some (.inr (.inr 103)), some (.inr (.inl x)), none, some (.inr (.inl y)), none, some (.inr (.inl z)), none, some (.inr (.inl T)), none, some (.inl b), some (.inr (.inl (jm_aw σ3 (x, y, z, 1) (σ3 103 4).toNat))), none, some (.inl (σ3 103 4))] [] σ3 Q) : ∀ (f : Nat) {k s : Int}, 0 ≤ k → k + f = σ3 103 4 → s = jm_aw σ3 (x, y, z, 1) k.toNat → jw_W (js_S n) D md_252 13 [some (.inr (.inr 103)), some (.inr (.inl x)), none, some (.inr (.inl y)), none, some (.inr (.inl z)), none, some (.inr (.inl T)), none, some (.inl b), some (.inr (.inl s)), none, some (.inl k)] [] σ3 Q
  | f, k, s, k0, hk, hs0 => by
    have ih : ∀ {s' : Int}, k < σ3 103 4 → s' = jm_aw σ3 (x, y, z, 1) (k + 1).toNat → jw_W (js_S n) D md_252 13 [some (.inr (.inr 103)), some (.inr (.inl x)), none, some (.inr (.inl y)), none, some (.inr (.inl z)), none, some (.inr (.inl T)), none, some (.inl b), some (.inr (.inl s')), none, some (.inl (k + 1))] [] σ3 Q := by
      intro s' h1 h2
      match f, hk with
      | 0, hk => omega
      | f + 1, hk => exact jm_eff_loop hD hP1 hQ f (by omega) (by omega) h2
    have pw := hP1.2.1
    refine jw_W_n 2 (i' := 15) (ls' := [some (.inr (.inr 103)), some (.inr (.inl x)), none, some (.inr (.inl y)), none, some (.inr (.inl z)), none, some (.inr (.inl T)), none, some (.inl b), some (.inr (.inl s)), none, some (.inl k)]) (st' := [.inr (.inr 103), .inl k]) rfl ?_
    refine jw_W_gf rfl rfl rfl ?_
    show jw_W (js_S n) _ md_252 16 [some (.inr (.inr 103)), some (.inr (.inl x)), none, some (.inr (.inl y)), none, some (.inr (.inl z)), none, some (.inr (.inl T)), none, some (.inl b), some (.inr (.inl s)), none, some (.inl k)] [.inl (σ3 103 4), .inl k] σ3 _
    refine jw_W_ic rfl (by unfold jw_rg; omega) (by unfold jw_rg; omega) (fun hc1 => ?_) (fun hc1 => ?_)
    · have hc1 : k ≥ (σ3 103 4) := hc1
      have hkl : k = σ3 103 4 := by omega
      subst hkl
      rw [hs0]
      exact hQ
    · have hc1 : ¬ (k ≥ (σ3 103 4)) := hc1
      refine jw_W_n 6 (i' := 23) (ls' := [some (.inr (.inr 103)), some (.inr (.inl x)), none, some (.inr (.inl y)), none, some (.inr (.inl z)), none, some (.inr (.inl T)), none, some (.inl b), some (.inr (.inl s)), none, some (.inl k)]) (st' := [.inr (.inl z), .inr (.inl y), .inr (.inl x), .inl k, .inr (.inr 103), .inr (.inl s)]) rfl ?_
      refine jw_W_call (as := [.inr (.inr 103), .inl k, .inr (.inl x), .inr (.inl y), .inr (.inl z)]) (rest := [.inr (.inl s)]) rfl rfl rfl rfl (Nat.le_of_ble_eq_true rfl) (.inr rfl) (jm_wished hP1 k0 (by omega)) (by omega) ?_ rfl
      rintro r1 σ1 ⟨rfl, hs⟩
      rw [hs]
      show jw_W (js_S n) _ md_252 24 [some (.inr (.inr 103)), some (.inr (.inl x)), none, some (.inr (.inl y)), none, some (.inr (.inl z)), none, some (.inr (.inl T)), none, some (.inl b), some (.inr (.inl s)), none, some (.inl k)] [.inr (.inl (ge_f (jm_W σ3 k) (x, y, z, 1))), .inr (.inl s)] σ3 _
      refine jw_W_n 4 (i' := 13) (ls' := [some (.inr (.inr 103)), some (.inr (.inl x)), none, some (.inr (.inl y)), none, some (.inr (.inl z)), none, some (.inr (.inl T)), none, some (.inl b), some (.inr (.inl (s + (ge_f (jm_W σ3 k) (x, y, z, 1))))), none, some (.inl (k + 1))]) (st' := []) rfl ?_
      exact ih (by omega) (by rw [hs0, show (k + 1).toNat = k.toNat + 1 by omega]; show _ = jm_aw σ3 (x, y, z, 1) k.toNat + ge_f (jm_W σ3 ((k.toNat : Nat) : Int)) (x, y, z, 1); rw [Int.toNat_of_nonneg k0])
theorem jm_isEfficient {n : Nat} {σ : jw_H} {T x y z : Int} {C : List (ge_R × Int)} (hP : jm_Pb σ) (hN : jm_Ns σ) (hK : jm_kn σ C) (T1 : T ≤ 262440) (hp : ge_F (jm_RR (σ 103 3) (jm_bA σ)) (x, y, z, T)) : jw_T (js_S n) 6 252 [.inr (.inr 103), .inr (.inl x), .inr (.inl y), .inr (.inl z), .inr (.inl T)] σ (fun r σ' => ∃ v, r = some (.inl v) ∧ jm_fe σ σ' ∧ (v = 1 ∧ ¬ jm_Ef σ (x, y, z, T) ∨ v = 0 ∧ jm_Ef σ (x, y, z, T))) := by
  refine jw_T_of (D := 5) (M := mm_252) rfl (Nat.le_of_ble_eq_true rfl) (ls0 := [some (.inr (.inr 103)), some (.inr (.inl x)), none, some (.inr (.inl y)), none, some (.inr (.inl z)), none, some (.inr (.inl T)), none, none, none, none, none]) rfl ?_ (by rintro _ _ ⟨_, rfl, -, (⟨rfl, -⟩ | ⟨rfl, -⟩)⟩ <;> rfl)
  obtain ⟨hx, hy, hz⟩ := jm_F_bd hP hp
  have T0 : 0 < T := hp.1
  simp only at hx hy hz
  refine jw_W_n 5 (i' := 5) (ls' := [some (.inr (.inr 103)), some (.inr (.inl x)), none, some (.inr (.inl y)), none, some (.inr (.inl z)), none, some (.inr (.inl T)), none, none, none, none, none]) (st' := [.inr (.inl T), .inr (.inl z), .inr (.inl y), .inr (.inl x), .inr (.inr 103)]) rfl ?_
  refine jw_W_call (as := [.inr (.inr 103), .inr (.inl x), .inr (.inl y), .inr (.inl z), .inr (.inl T)]) (rest := []) rfl rfl rfl rfl (Nat.le_of_ble_eq_true rfl) (.inr rfl) (jm_cutsBelow hP hN hK T0 T1 hx hy hz) (by omega) ?_ rfl
  rintro r1 σ1 ⟨rfl, hI⟩
  rename jw_H => σ3
  obtain ⟨hpb, hm⟩ := jm_cb_pb hP T0 T1 hI
  have hP1 := jm_fr2_Pb hI.1 hP
  show jw_W (js_S n) _ md_252 6 [some (.inr (.inr 103)), some (.inr (.inl x)), none, some (.inr (.inl y)), none, some (.inr (.inl z)), none, some (.inr (.inl T)), none, none, none, none, none] [] σ3 _
  refine jw_W_n 1 (i' := 7) (ls' := [some (.inr (.inr 103)), some (.inr (.inl x)), none, some (.inr (.inl y)), none, some (.inr (.inl z)), none, some (.inr (.inl T)), none, none, none, none, none]) (st' := [.inr (.inr 103)]) rfl ?_
  refine jw_W_call (as := [.inr (.inr 103)]) (rest := []) rfl rfl rfl rfl (Nat.le_of_ble_eq_true rfl) (.inr rfl) (jm_mostWished hP1 hpb) (by omega) ?_ rfl
  rintro r1 σ1 ⟨b, rfl, hs, b0, bm, hb⟩
  rw [hs]
  obtain ⟨heq, bl⟩ := jm_eff_eq hP hI.1 T0 hp hm b0 bm hb
  show jw_W (js_S n) _ md_252 8 [some (.inr (.inr 103)), some (.inr (.inl x)), none, some (.inr (.inl y)), none, some (.inr (.inl z)), none, some (.inr (.inl T)), none, none, none, none, none] [.inl b] σ3 _
  refine jw_W_n 5 (i' := 13) (ls' := [some (.inr (.inr 103)), some (.inr (.inl x)), none, some (.inr (.inl y)), none, some (.inr (.inl z)), none, some (.inr (.inl T)), none, some (.inl b), some (.inr (.inl 0)), none, some (.inl 0)]) (st' := []) rfl ?_
  refine jm_eff_loop (D := 5) (by omega) hP1 ?_ (σ3 103 4).toNat (k := 0) (by omega) (by have := hP1.2.1; omega) rfl
  have ehere : jm_aw σ3 (x, y, z, 1) (σ3 103 4).toNat = jm_Aw σ (x, y, z, 1) := jm_Aw_fr hI.1 _
  rw [ehere]
  have wb := (hpb.2 b b0 bl)
  have wb1 : 0 < σ3 128 b := wb.1.2.2.2.1
  have wb2 : σ3 128 b ≤ 162 := wb.2
  have A1 := jm_Aw_bd hP1 wb.1
  have A2 := jm_Aw_bd hP (v := (x, y, z, 1)) (by unfold jm_in4; simp only; omega)
  have A3 := jm_ab2 (S := 10331213040) (X := 162) A2.1 A2.2 (by omega) (Int.le_of_lt wb1) wb2
  have hmm := hpb.1
  refine jw_W_n 2 (i' := 30) (ls' := [some (.inr (.inr 103)), some (.inr (.inl x)), none, some (.inr (.inl y)), none, some (.inr (.inl z)), none, some (.inr (.inl T)), none, some (.inl b), some (.inr (.inl (jm_Aw σ (x, y, z, 1)))), none, some (.inl (σ3 103 4))]) (st' := [.inl b, .inr (.inr 103)]) rfl ?_
  refine jw_W_call (as := [.inr (.inr 103), .inl b]) (rest := []) rfl rfl rfl rfl (Nat.le_of_ble_eq_true rfl) (.inr rfl) (jm_allWished hP1 (by omega) (by have := hpb.1; omega)) (by omega) ?_ rfl
  rintro r1 σ1 ⟨rfl, hs⟩
  rw [hs]
  show jw_W (js_S n) _ md_252 31 [some (.inr (.inr 103)), some (.inr (.inl x)), none, some (.inr (.inl y)), none, some (.inr (.inl z)), none, some (.inr (.inl T)), none, some (.inl b), some (.inr (.inl (jm_Aw σ (x, y, z, 1)))), none, some (.inl (σ3 103 4))] [.inr (.inl (jm_Aw σ3 (jm_pt σ3 b)))] σ3 _
  refine jw_W_n 2 (i' := 33) (ls' := [some (.inr (.inr 103)), some (.inr (.inl x)), none, some (.inr (.inl y)), none, some (.inr (.inl z)), none, some (.inr (.inl T)), none, some (.inl b), some (.inr (.inl (jm_Aw σ (x, y, z, 1)))), none, some (.inl (σ3 103 4))]) (st' := [.inr (.inr 103), .inr (.inl (jm_Aw σ (x, y, z, 1))), .inr (.inl (jm_Aw σ3 (jm_pt σ3 b)))]) rfl ?_
  refine jw_W_gf rfl rfl rfl ?_
  show jw_W (js_S n) _ md_252 34 [some (.inr (.inr 103)), some (.inr (.inl x)), none, some (.inr (.inl y)), none, some (.inr (.inl z)), none, some (.inr (.inl T)), none, some (.inl b), some (.inr (.inl (jm_Aw σ (x, y, z, 1)))), none, some (.inl (σ3 103 4))] [.inr (.inr 128), .inr (.inl (jm_Aw σ (x, y, z, 1))), .inr (.inl (jm_Aw σ3 (jm_pt σ3 b)))] σ3 _
  refine jw_W_n 1 (i' := 35) (ls' := [some (.inr (.inr 103)), some (.inr (.inl x)), none, some (.inr (.inl y)), none, some (.inr (.inl z)), none, some (.inr (.inl T)), none, some (.inl b), some (.inr (.inl (jm_Aw σ (x, y, z, 1)))), none, some (.inl (σ3 103 4))]) (st' := [.inl b, .inr (.inr 128), .inr (.inl (jm_Aw σ (x, y, z, 1))), .inr (.inl (jm_Aw σ3 (jm_pt σ3 b)))]) rfl ?_
  refine jw_W_la rfl rfl (by omega) (by omega) (by omega) ?_
  show jw_W (js_S n) _ md_252 36 [some (.inr (.inr 103)), some (.inr (.inl x)), none, some (.inr (.inl y)), none, some (.inr (.inl z)), none, some (.inr (.inl T)), none, some (.inl b), some (.inr (.inl (jm_Aw σ (x, y, z, 1)))), none, some (.inl (σ3 103 4))] [.inr (.inl (σ3 128 b)), .inr (.inl (jm_Aw σ (x, y, z, 1))), .inr (.inl (jm_Aw σ3 (jm_pt σ3 b)))] σ3 _
  refine jw_W_n 1 (i' := 37) (ls' := [some (.inr (.inr 103)), some (.inr (.inl x)), none, some (.inr (.inl y)), none, some (.inr (.inl z)), none, some (.inr (.inl T)), none, some (.inl b), some (.inr (.inl (jm_Aw σ (x, y, z, 1)))), none, some (.inl (σ3 103 4))]) (st' := [.inr (.inl ((jm_Aw σ (x, y, z, 1)) * (σ3 128 b))), .inr (.inl (jm_Aw σ3 (jm_pt σ3 b)))]) rfl ?_
  refine jw_W_lc rfl rfl (by unfold jw_rgl; omega) (by unfold jw_rgl; omega) (fun hc1 => ?_) (fun hc1 => ?_)
  · have hc1 : (jm_Aw σ3 (jm_pt σ3 b)) ≠ ((jm_Aw σ (x, y, z, 1)) * (σ3 128 b)) := hc1
    refine jw_W_n 1 (i' := 42) (ls' := [some (.inr (.inr 103)), some (.inr (.inl x)), none, some (.inr (.inl y)), none, some (.inr (.inl z)), none, some (.inr (.inl T)), none, some (.inl b), some (.inr (.inl (jm_Aw σ (x, y, z, 1)))), none, some (.inl (σ3 103 4))]) (st' := [.inl 0]) rfl ?_
    refine jw_W_ir rfl ?_
    exact ⟨0, rfl, jm_cb_fe hI, .inr ⟨rfl, Classical.byContradiction (fun hn => absurd (heq.mpr hn) (by omega))⟩⟩
  · have hc1 : (jm_Aw σ3 (jm_pt σ3 b)) = ((jm_Aw σ (x, y, z, 1)) * (σ3 128 b)) := Classical.not_not.mp hc1
    refine jw_W_n 2 (i' := 42) (ls' := [some (.inr (.inr 103)), some (.inr (.inl x)), none, some (.inr (.inl y)), none, some (.inr (.inl z)), none, some (.inr (.inl T)), none, some (.inl b), some (.inr (.inl (jm_Aw σ (x, y, z, 1)))), none, some (.inl (σ3 103 4))]) (st' := [.inl 1]) rfl ?_
    refine jw_W_ir rfl ?_
    exact ⟨1, rfl, jm_cb_fe hI, .inl ⟨rfl, heq.mp (by omega)⟩⟩

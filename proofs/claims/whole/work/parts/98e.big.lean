/-! ===== a body so many times as great is one ===== -/
def ge_sr (T : Int) (r : ge_R) : ge_R := (r.1, r.2.1, r.2.2.1, T * r.2.2.2)
def jm_bT (T : Int) (β : List (Nat × ge_R)) : List (Nat × ge_R) := β.map (fun z => (z.1, ge_sr T z.2))
theorem ge_sr_s (T : Int) (r p : ge_R) : ge_s (ge_sr T r) (ge_s4 T p) = T * ge_s r p := by
  simp only [ge_s, ge_sr, ge_s4]
  grind
theorem jm_bT_mem {T : Int} {β : List (Nat × ge_R)} {b : Nat} {r : ge_R} : (b, r) ∈ jm_bT T β ↔ ∃ t, (b, t) ∈ β ∧ r = ge_sr T t := by
  unfold jm_bT
  rw [List.mem_map]
  constructor
  · rintro ⟨z, hz, e⟩
    cases e
    exact ⟨z.2, hz, rfl⟩
  · rintro ⟨t, ht, rfl⟩
    exact ⟨(b, t), ht, rfl⟩
theorem ge_sr_vr {T q : Int} {r : ge_R} (h : r ∈ jm_vr q) : ge_sr T r = r := by
  unfold jm_vr at h
  rcases List.mem_append.mp h with h | h
  · split at h
    · simp only [List.mem_cons, List.not_mem_nil, or_false] at h
      rcases h with rfl | rfl <;> simp [ge_sr]
    · exact absurd h List.not_mem_nil
  · split at h
    · simp only [List.mem_cons, List.not_mem_nil, or_false] at h
      rcases h with rfl | rfl <;> simp [ge_sr]
    · exact absurd h List.not_mem_nil
theorem jm_RR_T {T q : Int} {β : List (Nat × ge_R)} {r : ge_R} : r ∈ jm_RR q (jm_bT T β) ↔ ∃ t, t ∈ jm_RR q β ∧ r = ge_sr T t := by
  unfold jm_RR
  rw [List.mem_append]
  constructor
  · rintro (h | h)
    · obtain ⟨z, hz, rfl⟩ := List.mem_map.mp h
      obtain ⟨t, ht, e⟩ := jm_bT_mem.mp (show (z.1, z.2) ∈ jm_bT T β from hz)
      exact ⟨t, List.mem_append_left _ (List.mem_map.mpr ⟨_, ht, rfl⟩), e⟩
    · exact ⟨r, List.mem_append_right _ h, (ge_sr_vr h).symm⟩
  · rintro ⟨t, ht, rfl⟩
    rcases List.mem_append.mp ht with h | h
    · obtain ⟨z, hz, rfl⟩ := List.mem_map.mp h
      exact .inl (List.mem_map.mpr ⟨_, jm_bT_mem.mpr ⟨z.2, hz, rfl⟩, rfl⟩)
    · rw [ge_sr_vr h]
      exact .inr h
theorem ge_F_T {T q : Int} (hT : 0 < T) {β : List (Nat × ge_R)} {p : ge_R} : ge_F (jm_RR q (jm_bT T β)) (ge_s4 T p) ↔ ge_F (jm_RR q β) p := by
  constructor
  · rintro ⟨w, h⟩
    refine ⟨w, fun r hr => ?_⟩
    have := h _ (jm_RR_T.mpr ⟨r, hr, rfl⟩)
    rw [ge_sr_s] at this
    apply Classical.byContradiction
    intro hc
    have := Int.mul_pos hT (show 0 < ge_s r p by omega)
    omega
  · rintro ⟨w, h⟩
    refine ⟨w, fun r hr => ?_⟩
    obtain ⟨t, ht, rfl⟩ := jm_RR_T.mp hr
    rw [ge_sr_s]
    exact ge_mul_pn (Int.le_of_lt hT) (h t ht)
theorem ge_sr_z {T : Int} (hT : 0 < T) (r p : ge_R) : ge_s (ge_sr T r) (ge_s4 T p) = 0 ↔ ge_s r p = 0 := by
  rw [ge_sr_s]
  constructor
  · intro h
    exact (Int.mul_eq_zero.mp h).resolve_left (by omega)
  · intro h
    rw [h]
    omega
theorem ge_V_T {T q : Int} (hT : 0 < T) {β : List (Nat × ge_R)} {p : ge_R} : ge_V (jm_RR q (jm_bT T β)) (ge_s4 T p) ↔ ge_V (jm_RR q β) p := by
  constructor
  · rintro ⟨hF, r, hr, t, ht, u, hu, s1, s2, s3, hd⟩
    obtain ⟨r, hr1, rfl⟩ := jm_RR_T.mp hr
    obtain ⟨t, ht1, rfl⟩ := jm_RR_T.mp ht
    obtain ⟨u, hu1, rfl⟩ := jm_RR_T.mp hu
    exact ⟨(ge_F_T hT).mp hF, r, hr1, t, ht1, u, hu1, (ge_sr_z hT _ _).mp s1, (ge_sr_z hT _ _).mp s2, (ge_sr_z hT _ _).mp s3, hd⟩
  · rintro ⟨hF, r, hr, t, ht, u, hu, s1, s2, s3, hd⟩
    exact ⟨(ge_F_T hT).mpr hF, _, jm_RR_T.mpr ⟨r, hr, rfl⟩, _, jm_RR_T.mpr ⟨t, ht, rfl⟩, _, jm_RR_T.mpr ⟨u, hu, rfl⟩, (ge_sr_z hT _ _).mpr s1, (ge_sr_z hT _ _).mpr s2, (ge_sr_z hT _ _).mpr s3, hd⟩
theorem ge_s4_e {T : Int} (hT : T ≠ 0) {p q : ge_R} : ge_e (ge_s4 T p) (ge_s4 T q) ↔ ge_e p q := by
  have c : ∀ {x y : Int}, T * x = T * y ↔ x = y := ⟨fun h => Int.eq_of_mul_eq_mul_left hT h, fun h => by rw [h]⟩
  simp only [ge_e, ge_s4, Int.mul_assoc, c]
theorem ge_big {T q : Int} (hT : 0 < T) {β : List (Nat × ge_R)} {C : List (ge_R × Int)} (H : ge_Bd (jm_RR q β) (jm_tau β) C) : ge_Bd (jm_RR q (jm_bT T β)) (jm_tau (jm_bT T β)) (jm_big T C) := by
  have T0 : T ≠ 0 := by omega
  have pp := fun (x : ge_R × Int) (hx : x ∈ C) => ge_pp_ok (v := ge_s4 T x.1) (H.1 x hx).1.1.1
  refine ⟨fun z hz => ?_, fun v hv => ?_, ?_⟩
  · obtain ⟨x, hx, rfl⟩ := List.mem_map.mp hz
    obtain ⟨e, g, w⟩ := pp x hx
    obtain ⟨h1, h2, t0, t1, ht⟩ := H.1 x hx
    refine ⟨ge_e_V (ge_e_sym e) h1.1.1 w ((ge_V_T hT).mpr h1), g, t0, t1, fun b hb => ?_⟩
    rw [ht b hb]
    have k := fun r => (ge_sgn (ge_e_s e r) h1.1.1 w).2
    constructor
    · rintro ⟨r, hr, s⟩
      exact ⟨_, jm_bT_mem.mpr ⟨r, hr, rfl⟩, (k _).mpr ((ge_sr_z hT _ _).mpr s)⟩
    · rintro ⟨r, hr, s⟩
      obtain ⟨t, ht, rfl⟩ := jm_bT_mem.mp hr
      exact ⟨t, ht, (ge_sr_z hT _ _).mp ((k _).mp s)⟩
  · have wv := hv.1.1
    have wu : 0 < (v.1, v.2.1, v.2.2.1, T * v.2.2.2).2.2.2 := Int.mul_pos hT wv
    have e1 : ge_e (ge_s4 T (v.1, v.2.1, v.2.2.1, T * v.2.2.2)) v := ge_scale (c := T) rfl
    have hu := (ge_V_T hT).mp (ge_e_V (ge_e_sym e1) wv wu hv)
    obtain ⟨x, hx, ex⟩ := H.2.1 _ hu
    obtain ⟨e, g, w⟩ := pp x hx
    exact ⟨_, List.mem_map.mpr ⟨x, hx, rfl⟩, ge_e_tr e (ge_e_tr ((ge_s4_e T0).mpr ex) e1 (by show T * v.2.2.2 ≠ 0; have := wu; simp only at this; omega)) (by have := (H.1 x hx).1.1.1; show x.1.2.2.2 ≠ 0; omega)⟩
  · refine List.pairwise_map.mpr (List.Pairwise.imp_of_mem ?_ H.2.2)
    intro x y hx hy hne he
    obtain ⟨e1, -, w1⟩ := pp x hx
    obtain ⟨e2, -, w2⟩ := pp y hy
    have he2 : ge_e (ge_pp (ge_s4 T x.1)) (ge_pp (ge_s4 T y.1)) := he
    exact hne ((ge_s4_e T0).mp (ge_e_tr (ge_e_sym e1) (ge_e_tr he2 e2 (by omega)) (by omega)))
theorem ge_Bd_perm {R : List ge_R} {τ : ge_R → Int → Prop} {L C : List (ge_R × Int)} (h : C.Perm L) (H : ge_Bd R τ L) : ge_Bd R τ C := by
  refine ⟨fun x hx => H.1 x (h.mem_iff.mp hx), fun v hv => ?_, ?_⟩
  · obtain ⟨x, hx, e⟩ := H.2.1 v hv
    exact ⟨x, h.mem_iff.mpr hx, e⟩
  · exact (h.pairwise_iff (fun {x y} hxy he => hxy (ge_e_sym he))).mpr H.2.2
/-- what the reference knows of corners: all of them, by place -/
def jm_bA (σ : jw_H) : List (Nat × ge_R) := jm_bk σ (-1) (-1) (σ 103 5).toNat
def jm_kn (σ : jw_H) (C : List (ge_R × Int)) : Prop := jm_cor σ C ∧ ge_Bd (jm_RR (σ 103 3) (jm_bA σ)) (jm_tau (jm_bA σ)) C ∧ C.Pairwise (fun a b => ge_lt a.1 b.1 = true)
theorem jm_bA_B {σ : jw_H} (hP : jm_Pb σ) : ge_B (jm_RR (σ 103 3) (jm_bA σ)) := by
  obtain ⟨⟨q1, q2⟩, -, ⟨k1, k2⟩, -, -, -⟩ := hP
  intro d hd
  obtain ⟨r, hr, h⟩ := ge_box_B (a := jm_Bq (σ 103 3).toNat (jm_Bs σ) 0) (b := jm_Bq (σ 103 3).toNat (jm_Bs σ) 1) (c := jm_Bq (σ 103 3).toNat (jm_Bs σ) 2) d hd
  have hr := (jm_box_rows (K := (σ 103 5).toNat) (B := jm_Bs σ) (q := (σ 103 3).toNat) (by omega) (by omega) r).mpr hr
  refine ⟨r, ?_, h⟩
  rw [show ((σ 103 3).toNat : Int) = σ 103 3 by omega] at hr
  rcases List.mem_append.mp hr with hr | hr
  · obtain ⟨z, hz, rfl⟩ := List.mem_map.mp hr
    exact List.mem_append_left _ (List.mem_map.mpr ⟨z, jm_bk_mem.mpr (.inr hz), rfl⟩)
  · exact List.mem_append_right _ hr
theorem ge_B_T {T q : Int} {β : List (Nat × ge_R)} (h : ge_B (jm_RR q β)) : ge_B (jm_RR q (jm_bT T β)) := fun d hd => by
  obtain ⟨r, hr, h⟩ := h d hd
  exact ⟨_, jm_RR_T.mpr ⟨r, hr, rfl⟩, h⟩
/-- how many corners there are -/
theorem jm_kn_len {σ : jw_H} {C : List (ge_R × Int)} (hP : jm_Pb σ) (H : ge_Bd (jm_RR (σ 103 3) (jm_bA σ)) (jm_tau (jm_bA σ)) C) : C.length ≤ 20 := by
  have h1 := ge_count (R := jm_RR (σ 103 3) (jm_bA σ)) (Ps := C.map Prod.fst) (fun p hp => by
    obtain ⟨x, hx, rfl⟩ := List.mem_map.mp hp
    exact (H.1 x hx).1) (List.pairwise_map.mpr H.2.2)
  have h2 := jm_bk_len (wo := -1) (mo := -1) hP.1.1 hP.1.2 (σ 103 5).toNat
  have h3 := hP.2.2.1
  rw [List.length_map] at h1
  unfold jm_bA at h1
  omega

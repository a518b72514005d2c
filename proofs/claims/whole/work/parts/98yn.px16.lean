/-! ===== what the reference knows, told of one store; what risen says ===== -/
theorem jx_me_R {σ0 σ : jw_H} (h : jx_me σ0 σ) (hP : jm_Pb σ0) : jm_R σ = jm_R σ0 := jx_pq_R (jx_me_pq h) (by have := hP.1; omega) (by have := hP.2.2.1; omega)
theorem jx_me_bA {σ0 σ : jw_H} (h : jx_me σ0 σ) (hP : jm_Pb σ0) : jm_bA σ = jm_bA σ0 := jx_pq_bA (jx_me_pq h) (by have := hP.1; omega) (by have := hP.2.2.1; omega)
theorem jx_pq_Ef {μ ν : jw_H} (h : jx_pq μ ν) (hP : jm_Pb ν) (p : ge_R) : jm_Ef μ p ↔ jm_Ef ν p := by
  have e1 : jm_RR (μ 103 3) (jm_bA μ) = jm_RR (ν 103 3) (jm_bA ν) := jx_pq_R h (by have := hP.1; omega) (by have := hP.2.2.1; omega)
  unfold jm_Ef
  rw [e1, jx_pq_F h]
theorem jx_pq_up1 {μ ν : jw_H} (h : jx_pq μ ν) (hP : jm_Pb ν) (p : ge_R) (f : ge_D) : jm_up1 μ p f ↔ jm_up1 ν p f := by
  have e1 : jm_RR (μ 103 3) (jm_bA μ) = jm_RR (ν 103 3) (jm_bA ν) := jx_pq_R h (by have := hP.1; omega) (by have := hP.2.2.1; omega)
  unfold jm_up1
  rw [e1, jx_pq_F h]
theorem jx_rs_pq {μ ν : jw_H} (h : jx_pq μ ν) (hP : jm_Pb ν) {p : ge_R} {m : Int} (hr : jx_rs μ p m) : jx_rs ν p m := by
  refine ⟨hr.1, fun w => (hr.2 w).trans ?_⟩
  rw [h.1.2.1]
  constructor
  · rintro ⟨h1, h2⟩
    rw [jx_pq_W h (by omega) h1] at h2
    exact ⟨h1, (jx_pq_up1 h hP p _).mp h2⟩
  · rintro ⟨h1, h2⟩
    rw [jx_pq_W h (by omega) h1]
    exact ⟨h1, (jx_pq_up1 h hP p _).mpr h2⟩
theorem jx_Ef_up1 {σ : jw_H} {p : ge_R} : jm_Ef σ p ↔ ∃ w : Nat, (w : Int) < σ 103 4 ∧ jm_up1 σ p (jm_W σ (w : Int)) := by
  constructor
  · rintro ⟨q, hq, h1, f, hf, h2⟩
    obtain ⟨k, k0, k1, rfl⟩ := jm_F_mem hf
    exact ⟨k.toNat, by omega, q, hq, h1, by rw [Int.toNat_of_nonneg k0]; exact h2⟩
  · rintro ⟨w, hw, q, hq, h1, h2⟩
    exact ⟨q, hq, h1, _, List.mem_map.mpr ⟨w, List.mem_range.mpr (by omega), rfl⟩, h2⟩
/-- nothing is risen: efficient -/
theorem jx_rs_0 {σ : jw_H} {p : ge_R} {m : Int} (h : jx_rs σ p m) : m = 0 ↔ ¬ jm_Ef σ p := by
  rw [jx_Ef_up1]
  constructor
  · rintro rfl ⟨w, hw⟩
    have := (h.2 w).mpr hw
    simp [jb_in] at this
  · intro hn
    refine jx_bits h.1.1 (by omega) (fun b => ⟨fun hb => absurd ⟨b, (h.2 b).mp hb⟩ hn, fun hb => by simp [jb_in] at hb⟩)
theorem jx_rs_uq {σ : jw_H} {p : ge_R} {m m' : Int} (h : jx_rs σ p m) (h' : jx_rs σ p m') : m = m' := jx_bits h.1.1 h'.1.1 (fun b => (h.2 b).trans (h'.2 b).symm)
/-- each wish can be more: not weak -/
theorem jx_rs_wk {σ : jw_H} {p : ge_R} {m : Int} (h : jx_rs σ p m) (hw : 0 ≤ σ 103 4 ∧ σ 103 4 ≤ 3) : (σ 103 4 = 0 ∨ m ≠ jw_shl 1 (σ 103 4) - 1) ↔ jm_Wk σ p := by
  have e : ∀ b : Nat, jb_in (jw_shl 1 (σ 103 4) - 1) b ↔ (b : Int) < σ 103 4 := by
    intro b
    have key : ∀ w : Int, w = 0 ∨ w = 1 ∨ w = 2 ∨ w = 3 → (jb_in (jw_shl 1 w - 1) b ↔ (b : Int) < w) := by
      rintro w (rfl | rfl | rfl | rfl)
      · rw [show jw_shl 1 0 - 1 = 0 from rfl]
        simp [jb_in]
      · rw [show jw_shl 1 1 - 1 = 1 from rfl]
        have := Nat.testBit_two_pow_sub_one 1 b
        simp [jb_in] at this ⊢
        rw [this]
        simp
        omega
      · rw [show jw_shl 1 2 - 1 = 3 from rfl]
        have := Nat.testBit_two_pow_sub_one 2 b
        simp [jb_in] at this ⊢
        rw [this]
        simp
        omega
      · rw [show jw_shl 1 3 - 1 = 7 from rfl]
        have := Nat.testBit_two_pow_sub_one 3 b
        simp [jb_in] at this ⊢
        rw [this]
        simp
        omega
    exact key _ (by omega)
  have e0 : 0 ≤ jw_shl 1 (σ 103 4) - 1 := by
    rw [jx_shl1 _ hw.1 hw.2]
    repeat' split
    all_goals omega
  unfold jm_Wk
  constructor
  · rintro (h1 | h1)
    · exact .inl h1
    · refine .inr ?_
      refine Classical.byContradiction (fun hn => h1 (jx_bits h.1.1 e0 (fun b => ?_)))
      rw [h.2 b, e b]
      refine ⟨fun hh => hh.1, fun hh => ⟨hh, ?_⟩⟩
      exact Classical.byContradiction (fun hh2 => hn ⟨(b : Int), by omega, hh, hh2⟩)
  · rintro (h1 | ⟨k, k0, k1, h2⟩)
    · exact .inl h1
    · refine .inr (fun hm => h2 ?_)
      have := (h.2 k.toNat).mp (by rw [hm, e]; omega)
      rw [Int.toNat_of_nonneg k0] at this
      exact this.2
/-- what is better than one end is better amid -/
theorem jx_Ef_two {σ : jw_H} {x y : ge_R} (hx : 0 < x.2.2.2) (hy : ge_F (jm_R σ) y) (h : jm_Ef σ x) : jm_Ef σ (jm_two x y) := by
  obtain ⟨q, hq, h1, f, hf, h2⟩ := h
  have wq := hq.1
  have wy := hy.1
  have ef : ∀ g : ge_D, ge_f g (x.2.2.2 * q.1 + q.2.2.2 * y.1, x.2.2.2 * q.2.1 + q.2.2.2 * y.2.1, x.2.2.2 * q.2.2.1 + q.2.2.2 * y.2.2.1, q.2.2.2 * (x.2.2.2 + y.2.2.2)) = x.2.2.2 * ge_f g q + q.2.2.2 * ge_f g y := fun g => by
    simp only [ge_f]
    grind
  have et : ∀ g : ge_D, ge_f g (jm_two x y) = ge_f g x + ge_f g y := fun g => by
    simp only [ge_f, jm_two]
    grind
  have ew : (jm_two x y).2.2.2 = x.2.2.2 + y.2.2.2 := rfl
  have ek : ∀ g : ge_D, (x.2.2.2 * ge_f g q + q.2.2.2 * ge_f g y) * (x.2.2.2 + y.2.2.2) - (ge_f g x + ge_f g y) * (q.2.2.2 * (x.2.2.2 + y.2.2.2)) = (ge_f g q * x.2.2.2 - ge_f g x * q.2.2.2) * (x.2.2.2 + y.2.2.2) := fun g => by grind
  refine ⟨(x.2.2.2 * q.1 + q.2.2.2 * y.1, x.2.2.2 * q.2.1 + q.2.2.2 * y.2.1, x.2.2.2 * q.2.2.1 + q.2.2.2 * y.2.2.1, q.2.2.2 * (x.2.2.2 + y.2.2.2)), ⟨Int.mul_pos wq (by omega), fun r hr => ?_⟩, fun g hg => ?_, f, hf, ?_⟩
  · have e : ge_s r (x.2.2.2 * q.1 + q.2.2.2 * y.1, x.2.2.2 * q.2.1 + q.2.2.2 * y.2.1, x.2.2.2 * q.2.2.1 + q.2.2.2 * y.2.2.1, q.2.2.2 * (x.2.2.2 + y.2.2.2)) = x.2.2.2 * ge_s r q + q.2.2.2 * ge_s r y := by
      simp only [ge_s]
      grind
    rw [e]
    have a1 := ge_mul_pn (Int.le_of_lt hx) (hq.2 r hr)
    have a2 := ge_mul_pn (Int.le_of_lt wq) (hy.2 r hr)
    omega
  · rw [ef, et, ew]
    have a1 := Int.mul_nonneg (show 0 ≤ ge_f g q * x.2.2.2 - ge_f g x * q.2.2.2 by have := h1 g hg; omega) (show 0 ≤ x.2.2.2 + y.2.2.2 by omega)
    rw [← ek g] at a1
    simp only
    omega
  · rw [ef, et, ew]
    have a1 := Int.mul_pos (show 0 < ge_f f q * x.2.2.2 - ge_f f x * q.2.2.2 by omega) (show 0 < x.2.2.2 + y.2.2.2 by omega)
    rw [← ek f] at a1
    simp only
    omega
/-- what is tight amid is tight at both -/
theorem jx_tau_two {σ : jw_H} {x y : ge_R} {s t : Int} (hP : jm_Pb σ) (hx : ge_F (jm_R σ) x) (hy : ge_F (jm_R σ) y) (hs : jm_tau (jm_bA σ) x s) (ht : jm_tau (jm_bA σ) y t) : jm_tau (jm_bA σ) (jm_two x y) (jw_and s t) := by
  have e := jb_and hs.1 (by have := hs.2.1; omega) ht.1 (by have := ht.2.1; omega)
  have hle : s.toNat &&& t.toNat ≤ s.toNat := Nat.and_le_left
  have h1 := hs.1
  have h2 := hs.2.1
  refine ⟨by rw [e]; omega, by rw [e]; omega, fun b hb => ?_⟩
  rw [jm_and_in ⟨hs.1, hs.2.1⟩ ⟨ht.1, ht.2.1⟩ b, hs.2.2 b hb, ht.2.2 b hb]
  have es : ∀ r, ge_s r (jm_two x y) = ge_s r x + ge_s r y := fun r => by
    simp only [ge_s, jm_two]
    grind
  have inR : ∀ r, (b, r) ∈ jm_bA σ → r ∈ jm_R σ := fun r hr => List.mem_append_left _ (List.mem_map.mpr ⟨_, hr, rfl⟩)
  constructor
  · rintro ⟨⟨r, h3, h4⟩, r', h5, h6⟩
    by_cases hk : r = r'
    · subst hk
      exact ⟨r, h3, by rw [es]; omega⟩
    · refine ⟨r, h3, ?_⟩
      rw [es, h4]
      -- the same bit, the same row
      exact absurd (((jx_bA_row hP).mp h3).2.trans ((jx_bA_row hP).mp h5).2.symm) hk
  · rintro ⟨r, h3, h4⟩
    have a1 := hx.2 r (inR r h3)
    have a2 := hy.2 r (inR r h3)
    rw [es] at h4
    exact ⟨⟨r, h3, by omega⟩, r, h3, by omega⟩
/-- all that the reference knows, told of one store -/
def jm_KN (σ : jw_H) (C : List (ge_R × Int)) : Prop := jm_kw σ C ∧ (jm_mk C.length σ 137 ∧ jm_mk C.length σ 138) ∧ jm_gd σ 57 C C.length (fun p => ¬ jm_Ef σ p) ∧ jm_gd σ 58 C C.length (fun p => jm_Wk σ p) ∧ jm_el σ 137 C (jm_E1 σ) C.length (C.length + 1) ∧ jm_el σ 138 C (jm_E2 σ) C.length (C.length + 1) ∧ ∃ t : Nat, σ 103 59 = (t : Int) ∧ (∀ s, s < t → ∃ a, jm_lv σ s a) ∧ (∀ a, ¬ jm_lv σ t a) ∧ ∀ a, 0 ≤ a → a < σ 103 56 → ∃ s : Nat, s < t ∧ σ 139 a = (s : Int) ∧ jm_lv σ s a ∧ ¬ jm_lv σ (s + 1) a
theorem jm_gd_iff {σ σ' : jw_H} {f : Int} {C : List (ge_R × Int)} {i : Int} {P P' : ge_R → Prop} (e : σ' 103 f = σ 103 f) (hP : ∀ p, P p ↔ P' p) (h : jm_gd σ f C i P) : jm_gd σ' f C i P' := by
  unfold jm_gd at *
  rw [e]
  refine ⟨h.1, fun a a0 => (h.2 a a0).trans ⟨?_, ?_⟩⟩
  · rintro ⟨h1, x, h2, h3⟩
    exact ⟨h1, x, h2, (hP _).mp h3⟩
  · rintro ⟨h1, x, h2, h3⟩
    exact ⟨h1, x, h2, (hP _).mpr h3⟩
theorem jm_el_iff {σ σ' : jw_H} {o : Nat} {C : List (ge_R × Int)} {P P' : ge_R → ge_R → Prop} {i j : Int} (e : σ' o = σ o) (hP : ∀ p q, P p q ↔ P' p q) (h : jm_el σ o C P i j) : jm_el σ' o C P' i j := by
  unfold jm_el jm_nx at *
  rw [e]
  intro a c h1 h2 h3
  refine (h a c h1 h2 h3).trans ⟨?_, ?_⟩
  · rintro ⟨h4, x, y, h5, h6, h7⟩
    exact ⟨h4, x, y, h5, h6, (hP _ _).mp h7⟩
  · rintro ⟨h4, x, y, h5, h6, h7⟩
    exact ⟨h4, x, y, h5, h6, (hP _ _).mpr h7⟩
theorem jm_fk_R {σ σ' : jw_H} (a : jm_fk σ σ') : jm_R σ' = jm_R σ := by
  unfold jm_R
  rw [jm_fk_bA a, a.2 3 (by omega) (by omega) (by omega) (by omega)]
theorem jm_fl_me {σ σ' : jw_H} (a : jm_fl σ σ') : jm_fk σ σ' := jm_fl_k a
theorem jm_kd_KN {σ0 σ : jw_H} {C : List (ge_R × Int)} (h0 : jm_k0 σ0 C) (h : jm_kd σ0 C σ) : jm_KN σ C := by
  obtain ⟨σ1, t, ⟨⟨k1, k2, k3, k4, k5⟩, g1, g2, l1, l2⟩, ⟨f1, f2, f3, f4⟩, f5⟩ := h
  have fk : jm_fk σ0 σ := jm_fk_tr k1 (jm_fl_k f1)
  have fo : ∀ o, o ≠ 139 → o ≠ 103 → σ o = σ1 o := f1.1
  have c56 : σ 103 56 = σ1 103 56 := f1.2 56 (by omega)
  have lv : ∀ s a, jm_lv σ s a ↔ jm_lv σ1 s a := fun s a => (jm_lv_fk fk s a).trans (jm_lv_fk k1 s a).symm
  refine ⟨⟨jm_fk_Pb fk h0.1, jm_fk_kn fk h0.2.1, ?_, ?_, ?_, trivial⟩, ⟨?_, ?_⟩, ?_, ?_, ?_, ?_, t, f2, fun s hs => ?_, fun a ha => f5 a ((lv t a).mp ha), fun a a0 a1 => ?_⟩
  · rw [jm_fk_bA fk, fk.2 3 (by omega) (by omega) (by omega) (by omega)]
    exact h0.2.2.1
  · rw [jm_fk_bA fk]
    exact h0.2.2.2.1
  · unfold jm_Ns
    rw [fo 131 (by omega) (by omega)]
    exact k2
  · unfold jm_mk
    rw [fo 137 (by omega) (by omega)]
    exact k4
  · unfold jm_mk
    rw [fo 138 (by omega) (by omega)]
    exact k5
  · exact jm_gd_iff (f1.2 57 (by omega)) (fun p => not_congr (jm_fk_Ef fk p).symm) g1
  · exact jm_gd_iff (f1.2 58 (by omega)) (fun p => (jm_fk_Wk fk p).symm) g2
  · exact jm_el_iff (fo 137 (by omega) (by omega)) (fun p q => by unfold jm_E1; rw [jm_fk_R fk]) l1
  · exact jm_el_iff (fo 138 (by omega) (by omega)) (fun p q => by unfold jm_E2; rw [jm_fk_R fk, jm_fk_Ef fk]) l2
  · obtain ⟨a, ha⟩ := f3 s hs
    exact ⟨a, (lv s a).mpr ha⟩
  · rw [c56] at a1
    obtain ⟨s, h1, h2, h3, h4⟩ := f4 a a0 a1 (f5 a)
    exact ⟨s, h1, h2, (lv s a).mpr h3, fun hh => h4 ((lv (s + 1) a).mp hh)⟩
theorem jm_KN_me {σ0 σ : jw_H} {C : List (ge_R × Int)} (h : jx_me σ0 σ) (hk : jm_KN σ0 C) : jm_KN σ C := by
  have hP := hk.1.1
  obtain ⟨h0, ⟨m1, m2⟩, g1, g2, l1, l2, t, t1, t2, t3, t4⟩ := hk
  have ef := fun p => jx_pq_Ef (jx_me_pq h) hP p
  have er := jx_me_R h hP
  have e103 := h 103 (by omega)
  have lv := fun s a => jx_me_lv h s a
  refine ⟨jm_kw_me h h0, ⟨?_, ?_⟩, ?_, ?_, ?_, ?_, t, by rw [e103]; exact t1, fun s hs => ?_, fun a ha => t3 a ((lv t a).mp ha), fun a a0 a1 => ?_⟩
  · unfold jm_mk
    rw [h 137 (by omega)]
    exact m1
  · unfold jm_mk
    rw [h 138 (by omega)]
    exact m2
  · exact jm_gd_iff (by rw [e103]) (fun p => not_congr (ef p).symm) g1
  · refine jm_gd_iff (by rw [e103]) (fun p => ?_) g2
    unfold jm_Wk
    rw [e103]
    refine or_congr Iff.rfl ⟨?_, ?_⟩
    · rintro ⟨k, a, b, c⟩
      exact ⟨k, a, b, fun hh => c (by rw [← jx_me_W h]; exact (jx_pq_up1 (jx_me_pq h) hP p _).mp hh)⟩
    · rintro ⟨k, a, b, c⟩
      exact ⟨k, a, b, fun hh => c (by rw [← jx_me_W h] at hh; exact (jx_pq_up1 (jx_me_pq h) hP p _).mpr hh)⟩
  · exact jm_el_iff (h 137 (by omega)) (fun p q => by unfold jm_E1; rw [er]) l1
  · exact jm_el_iff (h 138 (by omega)) (fun p q => by unfold jm_E2; rw [er, ef]) l2
  · obtain ⟨a, ha⟩ := t2 s hs
    exact ⟨a, (lv s a).mpr ha⟩
  · rw [e103] at a1
    obtain ⟨s, h1, h2, h3, h4⟩ := t4 a a0 a1
    exact ⟨s, h1, by rw [h 139 (by omega)]; exact h2, (lv s a).mpr h3, fun hh => h4 ((lv (s + 1) a).mp hh)⟩

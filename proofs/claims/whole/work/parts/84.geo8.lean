/-! ===== geometry: a list of corners, cut ===== -/
theorem ge_e_s {p q : ge_R} (h : ge_e p q) (r : ge_R) : ge_s r p * q.2.2.2 = ge_s r q * p.2.2.2 := by
  obtain ⟨h1, h2, h3⟩ := h
  simp only [ge_s]
  grind
theorem ge_sgn {a b c d : Int} (h : a * c = b * d) (hc : 0 < c) (hd : 0 < d) : (a ≤ 0 ↔ b ≤ 0) ∧ (a = 0 ↔ b = 0) := by
  have h1 : ∀ {a b c d : Int}, a * c = b * d → 0 < c → 0 < d → a ≤ 0 → b ≤ 0 := by
    intro a b c d h hc hd ha
    apply Classical.byContradiction
    intro hb
    have e1 := Int.mul_pos (show 0 < b by omega) hd
    have e2 := ge_mul_np ha (Int.le_of_lt hc)
    omega
  have h2 : ∀ {a b c d : Int}, a * c = b * d → 0 < c → 0 < d → a = 0 → b = 0 := by
    intro a b c d h hc hd ha
    subst ha
    rw [Int.zero_mul] at h
    exact (Int.mul_eq_zero.mp h.symm).resolve_right (by omega)
  exact ⟨⟨h1 h hc hd, h1 h.symm hd hc⟩, ⟨h2 h hc hd, h2 h.symm hd hc⟩⟩
theorem ge_e_V {R : List ge_R} {p q : ge_R} (h : ge_e p q) (wp : 0 < p.2.2.2) (wq : 0 < q.2.2.2) (hv : ge_V R p) : ge_V R q := by
  obtain ⟨hF, r, hr, t, ht, u, hu, s1, s2, s3, hd⟩ := hv
  have k := fun r => ge_sgn (ge_e_s h r) wq wp
  exact ⟨⟨wq, fun r hr => (k r).1.mp (hF.2 r hr)⟩, r, hr, t, ht, u, hu, (k r).2.mp s1, (k t).2.mp s2, (k u).2.mp s3, hd⟩
theorem ge_e_tr {p q r : ge_R} (h1 : ge_e p q) (h2 : ge_e q r) (wq : q.2.2.2 ≠ 0) : ge_e p r := by
  obtain ⟨a1, a2, a3⟩ := h1
  obtain ⟨b1, b2, b3⟩ := h2
  have c : ∀ {x y : Int}, x * q.2.2.2 = y * q.2.2.2 → x = y := fun h => Int.eq_of_mul_eq_mul_right wq h
  refine ⟨c ?_, c ?_, c ?_⟩ <;> grind
/-- the same point without a common divisor -/
def ge_pp (v : ge_R) : ge_R := (v.1 / (ge_g v : Int), v.2.1 / (ge_g v : Int), v.2.2.1 / (ge_g v : Int), v.2.2.2 / (ge_g v : Int))
theorem ge_g_pos {v : ge_R} (hw : 0 < v.2.2.2) : 0 < ge_g v := Nat.gcd_pos_of_pos_right _ (Int.gcd_pos_of_ne_zero_right _ (by omega))
theorem ge_g_dvd (v : ge_R) : (ge_g v : Int) ∣ v.1 ∧ (ge_g v : Int) ∣ v.2.1 ∧ (ge_g v : Int) ∣ v.2.2.1 ∧ (ge_g v : Int) ∣ v.2.2.2 :=
  ⟨Int.dvd_trans (Int.natCast_dvd_natCast.mpr (Nat.gcd_dvd_left _ _)) (Int.gcd_dvd_left _ _), Int.dvd_trans (Int.natCast_dvd_natCast.mpr (Nat.gcd_dvd_left _ _)) (Int.gcd_dvd_right _ _), Int.dvd_trans (Int.natCast_dvd_natCast.mpr (Nat.gcd_dvd_right _ _)) (Int.gcd_dvd_left _ _), Int.dvd_trans (Int.natCast_dvd_natCast.mpr (Nat.gcd_dvd_right _ _)) (Int.gcd_dvd_right _ _)⟩
theorem ge_pp_ok {v : ge_R} (hw : 0 < v.2.2.2) : ge_e (ge_pp v) v ∧ ge_g (ge_pp v) = 1 ∧ 0 < (ge_pp v).2.2.2 := by
  have g0 := ge_g_pos hw
  obtain ⟨d1, d2, d3, d4⟩ := ge_g_dvd v
  have e1 := Int.ediv_mul_cancel d1
  have e2 := Int.ediv_mul_cancel d2
  have e3 := Int.ediv_mul_cancel d3
  have e4 := Int.ediv_mul_cancel d4
  have hg := ge_gm (v.1 / (ge_g v : Int)) (v.2.1 / (ge_g v : Int)) (v.2.2.1 / (ge_g v : Int)) (v.2.2.2 / (ge_g v : Int)) (ge_g v : Int)
  rw [e1, e2, e3, e4, Int.natAbs_natCast] at hg
  refine ⟨?_, ?_, ?_⟩
  · simp only [ge_e, ge_pp]
    generalize v.1 / (ge_g v : Int) = a at *
    generalize v.2.1 / (ge_g v : Int) = b at *
    generalize v.2.2.1 / (ge_g v : Int) = c at *
    generalize v.2.2.2 / (ge_g v : Int) = d at *
    refine ⟨?_, ?_, ?_⟩ <;> grind
  · have h : 1 * ge_g v = ge_g (ge_pp v) * ge_g v := by
      rw [Nat.one_mul]
      exact hg
    exact (Nat.eq_of_mul_eq_mul_right g0 h).symm
  · show 0 < v.2.2.2 / (ge_g v : Int)
    apply Classical.byContradiction
    intro h
    have := ge_mul_np (show v.2.2.2 / (ge_g v : Int) ≤ 0 by omega) (show (0 : Int) ≤ ge_g v by omega)
    omega
/-- primitive and in one place: told by the place alone -/
theorem ge_pp_eq {u v : ge_R} (hu : ge_g u = 1) (wu : 0 < u.2.2.2) (wv : 0 < v.2.2.2) (h : ge_e u v) : u = ge_pp v := by
  obtain ⟨e, g, w⟩ := ge_pp_ok wv
  exact ge_prim hu g wu w (ge_e_tr h (ge_e_sym e) (by omega))
/-! no two edges go through one row at one place -/
def ge_ngr (h : ge_R) : ge_R := (-h.1, -h.2.1, -h.2.2.1, -h.2.2.2)
theorem ge_ngr_s (h p : ge_R) : ge_s (ge_ngr h) p = - ge_s h p := by
  simp only [ge_s, ge_ngr]
  grind
theorem ge_par2 {r t : ge_R} {d e : ge_D} (h1 : ge_n r d = 0) (h2 : ge_n t d = 0) (h3 : ge_n r e = 0) (h4 : ge_n t e = 0) (hx : ge_nz (ge_x r t)) : ¬ ge_nz (jm_X d e) := by
  obtain ⟨a1, a2, a3⟩ := ge_x_par h1 h2
  obtain ⟨b1, b2, b3⟩ := ge_x_par h3 h4
  refine jm_par (f := ge_x r t) ?_ ?_ hx
  · simp only [jm_X, ge_nz]
    omega
  · simp only [jm_X, ge_nz]
    omega
theorem ge_line {R : List ge_R} {h r t p u q : ge_R} (hp : ge_V R p) (hu : ge_V R u) (hq : ge_F R q) (p1 : ge_s r p = 0) (p2 : ge_s t p = 0) (u1 : ge_s r u = 0) (u2 : ge_s t u = 0) (q1 : ge_s r q = 0) (q2 : ge_s t q = 0) (hx : ge_nz (ge_x r t)) (sp : ge_s h p < 0) (su : ge_s h u < 0) (sq : 0 < ge_s h q) : ge_e p u := by
  have lev : ∀ {a b : ge_R} {r : ge_R}, ge_s r a = 0 → ge_s r b = 0 → ge_n r (ge_to a b) = 0 := by
    intro a b r ha hb
    rw [ge_to_n, ha, hb]
    omega
  have pos : ∀ {a : ge_R}, ge_F R a → ge_s h a < 0 → 0 < ge_n h (ge_to a q) := by
    intro a ha hs
    rw [ge_to_n]
    have h1 := Int.mul_pos sq ha.1
    have h2 := Int.mul_pos (show 0 < - ge_s h a by omega) hq.1
    rw [Int.neg_mul] at h2
    omega
  have mid : ∀ {a b : ge_R}, ge_V R a → ge_F R b → ge_s r a = 0 → ge_s t a = 0 → ge_s r b = 0 → ge_s t b = 0 → ge_s h a < 0 → ge_n h (ge_to a b) < 0 → ge_e a b := by
    intro a b ha hb a1 a2 b1 b2 hs hl
    have hpar := Classical.not_not.mp (ge_par2 (lev a1 b1) (lev a2 b2) (lev a1 q1) (lev a2 q2) hx)
    refine ge_amid (a := ge_n h (ge_to a q)) (b := - ge_n h (ge_to a b)) ha hb hq (pos ha.1 hs) (by omega) ?_ ?_ ?_
    all_goals
      simp only [jm_X, ge_n] at hpar ⊢
      grind
  have hs : ge_n h (ge_to p u) = - ge_n h (ge_to u p) := by
    rw [ge_to_n, ge_to_n]
    omega
  by_cases h0 : ge_n h (ge_to p u) = 0
  · exact ge_to_z.mpr (ge_level (lev p1 u1) (lev p2 u2) h0 (ge_three (lev p1 q1) (lev p2 q2) (by have := pos hp.1 sp; omega) hx))
  · by_cases h1 : ge_n h (ge_to p u) < 0
    · exact mid hp hu.1 p1 p2 u1 u2 sp h1
    · exact ge_e_sym (mid hu hp.1 u1 u2 p1 p2 su (by omega))
theorem ge_cr_on {R : List ge_R} {h p q r : ge_R} (hr : r ∈ R) (hp : ge_F R p) (hq : ge_F R q) (sp : ge_s h p < 0) (sq : 0 < ge_s h q) : ge_s r (ge_cr h p q) = 0 ↔ ge_s r p = 0 ∧ ge_s r q = 0 := by
  rw [ge_cr_s]
  constructor
  · intro e
    have h1 := ge_mul_pn (Int.le_of_lt sq) (hp.2 r hr)
    have h2 := ge_mul_nn (Int.le_of_lt sp) (hq.2 r hr)
    exact ⟨(Int.mul_eq_zero.mp (show ge_s h q * ge_s r p = 0 by omega)).resolve_left (by omega), (Int.mul_eq_zero.mp (show ge_s h p * ge_s r q = 0 by omega)).resolve_left (by omega)⟩
  · rintro ⟨e1, e2⟩
    rw [e1, e2]
    omega
theorem ge_cr_w {R : List ge_R} {h p q : ge_R} (hp : ge_F R p) (hq : ge_F R q) (sp : ge_s h p < 0) (sq : 0 < ge_s h q) : 0 < (ge_cr h p q).2.2.2 := (ge_cr_F hp hq sp sq).1
theorem ge_cr_uniq {R : List ge_R} {h p q u v : ge_R} (hp : ge_V R p) (hq : ge_V R q) (hu : ge_V R u) (hv : ge_V R v) (sp : ge_s h p < 0) (sq : 0 < ge_s h q) (su : ge_s h u < 0) (sv : 0 < ge_s h v) (he : ge_ed R p q) (e : ge_e (ge_cr h p q) (ge_cr h u v)) : ge_e p u ∧ ge_e q v := by
  obtain ⟨r, hr, t, ht, r1, r2, t1, t2, hx⟩ := he
  have k : ∀ r, ge_s r (ge_cr h p q) = 0 ↔ ge_s r (ge_cr h u v) = 0 := fun r => (ge_sgn (ge_e_s e r) (ge_cr_w hu.1 hv.1 su sv) (ge_cr_w hp.1 hq.1 sp sq)).2
  obtain ⟨a1, a2⟩ := (ge_cr_on hr hu.1 hv.1 su sv).mp ((k r).mp ((ge_cr_on hr hp.1 hq.1 sp sq).mpr ⟨r1, r2⟩))
  obtain ⟨b1, b2⟩ := (ge_cr_on ht hu.1 hv.1 su sv).mp ((k t).mp ((ge_cr_on ht hp.1 hq.1 sp sq).mpr ⟨t1, t2⟩))
  refine ⟨ge_line (h := h) hp hu hq.1 r1 t1 a1 b1 r2 t2 hx sp su sq, ge_line (h := ge_ngr h) hq hv hp.1 r2 t2 a2 b2 r1 t1 hx ?_ ?_ ?_⟩
  · rw [ge_ngr_s]; omega
  · rw [ge_ngr_s]; omega
  · rw [ge_ngr_s]; omega
/-! lists of corners -/
/-- corners with what is told of each: all of them, each once -/
def ge_Bd (R : List ge_R) (τ : ge_R → Int → Prop) (L : List (ge_R × Int)) : Prop := (∀ x ∈ L, ge_V R x.1 ∧ ge_g x.1 = 1 ∧ τ x.1 x.2) ∧ (∀ v, ge_V R v → ∃ x ∈ L, ge_e x.1 v) ∧ L.Pairwise (fun x y => ¬ ge_e x.1 y.1)
/-- the points where edges go through -/
def ge_new (h : ge_R) (ed : (ge_R × Int) → (ge_R × Int) → Bool) (nt : Int → Int → Int) (L M : List (ge_R × Int)) : List (ge_R × Int) :=
  L.flatMap (fun x => if ge_s h x.1 < 0 then M.flatMap (fun y => if 0 < ge_s h y.1 ∧ ed x y = true then [(ge_pp (ge_cr h x.1 y.1), nt x.2 y.2)] else []) else [])
theorem ge_new_mem {h : ge_R} {ed : (ge_R × Int) → (ge_R × Int) → Bool} {nt : Int → Int → Int} {L M : List (ge_R × Int)} {z : ge_R × Int} : z ∈ ge_new h ed nt L M ↔ ∃ x ∈ L, ∃ y ∈ M, ge_s h x.1 < 0 ∧ 0 < ge_s h y.1 ∧ ed x y = true ∧ z = (ge_pp (ge_cr h x.1 y.1), nt x.2 y.2) := by
  unfold ge_new
  rw [List.mem_flatMap]
  constructor
  · rintro ⟨x, hx, hz⟩
    split at hz
    · rename_i hs
      obtain ⟨y, hy, hz⟩ := List.mem_flatMap.mp hz
      split at hz
      · rename_i hc
        exact ⟨x, hx, y, hy, hs, hc.1, hc.2, List.mem_singleton.mp hz⟩
      · exact absurd hz List.not_mem_nil
    · exact absurd hz List.not_mem_nil
  · rintro ⟨x, hx, y, hy, h1, h2, h3, rfl⟩
    refine ⟨x, hx, ?_⟩
    rw [if_pos h1]
    refine List.mem_flatMap.mpr ⟨y, hy, ?_⟩
    rw [if_pos ⟨h2, h3⟩]
    exact List.mem_singleton.mpr rfl
theorem ge_cr_notV {R : List ge_R} {h p q : ge_R} (hp : ge_F R p) (hq : ge_F R q) (sp : ge_s h p < 0) (sq : 0 < ge_s h q) : ¬ ge_V R (ge_cr h p q) := by
  intro hv
  have e : ge_e (ge_cr h p q) p := by
    refine ge_amid (a := ge_s h q) (b := - ge_s h p) hv hp hq sq (by omega) ?_ ?_ ?_
    all_goals
      simp only [ge_to, ge_cr]
      generalize ge_s h p = a
      generalize ge_s h q = b
      grind
  have := (ge_sgn (ge_e_s e h) hp.1 (ge_cr_w hp hq sp sq)).2.mp (ge_cr_h h p q)
  omega
theorem ge_cr_e {h p q u v : ge_R} (e1 : ge_e u p) (e2 : ge_e v q) (wp : p.2.2.2 ≠ 0) (wq : q.2.2.2 ≠ 0) : ge_e (ge_cr h u v) (ge_cr h p q) := by
  have s1 := ge_e_s e1 h
  have s2 := ge_e_s e2 h
  obtain ⟨a1, a2, a3⟩ := e1
  obtain ⟨b1, b2, b3⟩ := e2
  have c : ∀ {x y : Int}, x * (p.2.2.2 * q.2.2.2) = y * (p.2.2.2 * q.2.2.2) → x = y := fun h => Int.eq_of_mul_eq_mul_right (Int.mul_ne_zero wp wq) h
  simp only [ge_e, ge_cr]
  generalize ge_s h u = su at *
  generalize ge_s h v = sv at *
  generalize ge_s h p = sp at *
  generalize ge_s h q = sq at *
  have k : ∀ {x y x' y' : Int}, x * p.2.2.2 = x' * u.2.2.2 → y * q.2.2.2 = y' * v.2.2.2 → (sv * x - su * y) * (p.2.2.2 * q.2.2.2) = (sq * x' - sp * y') * (u.2.2.2 * v.2.2.2) := by
    intro x y x' y' h1 h2
    have f1 : sv * x * (p.2.2.2 * q.2.2.2) = (sv * q.2.2.2) * (x * p.2.2.2) := by grind
    have f2 : su * y * (p.2.2.2 * q.2.2.2) = (su * p.2.2.2) * (y * q.2.2.2) := by grind
    rw [Int.sub_mul, f1, f2, h1, h2, s1, s2]
    grind
  have w := k (x := u.2.2.2) (y := v.2.2.2) (x' := p.2.2.2) (y' := q.2.2.2) (Int.mul_comm _ _) (Int.mul_comm _ _)
  have x1 := k a1 b1
  have x2 := k a2 b2
  have x3 := k a3 b3
  refine ⟨c ?_, c ?_, c ?_⟩ <;> grind
theorem ge_ed_e {R : List ge_R} {p q u v : ge_R} (e1 : ge_e u p) (e2 : ge_e v q) (wp : 0 < p.2.2.2) (wq : 0 < q.2.2.2) (wu : 0 < u.2.2.2) (wv : 0 < v.2.2.2) (h : ge_ed R p q) : ge_ed R u v := by
  obtain ⟨r, hr, t, ht, r1, r2, t1, t2, hx⟩ := h
  have k1 := fun r => (ge_sgn (ge_e_s e1 r) wp wu).2
  have k2 := fun r => (ge_sgn (ge_e_s e2 r) wq wv).2
  exact ⟨r, hr, t, ht, (k1 r).mpr r1, (k2 r).mpr r2, (k1 t).mpr t1, (k2 t).mpr t2, hx⟩
section GCL
variable {R : List ge_R} {h : ge_R} {τ τ' : ge_R → Int → Prop} {ed : (ge_R × Int) → (ge_R × Int) → Bool} {nt : Int → Int → Int} {L : List (ge_R × Int)}
theorem ge_new_V (hL : ge_Bd R τ L) (he : ∀ x ∈ L, ∀ y ∈ L, ge_s h x.1 < 0 → 0 < ge_s h y.1 → (ed x y = true ↔ ge_ed R x.1 y.1)) {z : ge_R × Int} (hz : z ∈ ge_new h ed nt L L) : ge_V (h :: R) z.1 ∧ ge_g z.1 = 1 ∧ ge_s h z.1 = 0 ∧ ¬ ge_V R z.1 := by
  obtain ⟨x, hx, y, hy, sx, sy, hd, rfl⟩ := ge_new_mem.mp hz
  have vx := (hL.1 x hx).1
  have vy := (hL.1 y hy).1
  have w := ge_cr_w vx.1 vy.1 sx sy
  obtain ⟨e, g, wp⟩ := ge_pp_ok w
  refine ⟨ge_e_V (ge_e_sym e) w wp (ge_cr_V vx.1 vy.1 sx sy ((he x hx y hy sx sy).mp hd)), g, ?_, fun hv => ge_cr_notV vx.1 vy.1 sx sy (ge_e_V e wp w hv)⟩
  exact (ge_sgn (ge_e_s e h) w wp).2.mpr (ge_cr_h h x.1 y.1)
theorem ge_new_pw (hL : ge_Bd R τ L) (he : ∀ x ∈ L, ∀ y ∈ L, ge_s h x.1 < 0 → 0 < ge_s h y.1 → (ed x y = true ↔ ge_ed R x.1 y.1)) : (ge_new h ed nt L L).Pairwise (fun x y => ¬ ge_e x.1 y.1) := by
  have key : ∀ x ∈ L, ∀ y ∈ L, ∀ u ∈ L, ∀ v ∈ L, ge_s h x.1 < 0 → 0 < ge_s h y.1 → ge_s h u.1 < 0 → 0 < ge_s h v.1 → ed x y = true → ge_e (ge_pp (ge_cr h x.1 y.1)) (ge_pp (ge_cr h u.1 v.1)) → ge_e x.1 u.1 ∧ ge_e y.1 v.1 := by
    intro x hx y hy u hu v hv sx sy su sv hd e
    have vx := (hL.1 x hx).1
    have vy := (hL.1 y hy).1
    have vu := (hL.1 u hu).1
    have vv := (hL.1 v hv).1
    obtain ⟨e1, -, w1⟩ := ge_pp_ok (ge_cr_w vx.1 vy.1 sx sy)
    obtain ⟨e2, -, w2⟩ := ge_pp_ok (ge_cr_w vu.1 vv.1 su sv)
    exact ge_cr_uniq vx vy vu vv sx sy su sv ((he x hx y hy sx sy).mp hd) (ge_e_tr (ge_e_sym e1) (ge_e_tr e e2 (by omega)) (by omega))
  unfold ge_new
  rw [List.pairwise_flatMap]
  have inM : ∀ {x z : ge_R × Int}, z ∈ (if ge_s h x.1 < 0 then L.flatMap (fun y => if 0 < ge_s h y.1 ∧ ed x y = true then [(ge_pp (ge_cr h x.1 y.1), nt x.2 y.2)] else []) else []) → ge_s h x.1 < 0 ∧ ∃ y ∈ L, 0 < ge_s h y.1 ∧ ed x y = true ∧ z = (ge_pp (ge_cr h x.1 y.1), nt x.2 y.2) := by
    intro x z hz
    split at hz
    · rename_i hs
      obtain ⟨y, hy, hz⟩ := List.mem_flatMap.mp hz
      split at hz
      · rename_i hc
        exact ⟨hs, y, hy, hc.1, hc.2, List.mem_singleton.mp hz⟩
      · exact absurd hz List.not_mem_nil
    · exact absurd hz List.not_mem_nil
  refine ⟨fun x hx => ?_, ?_⟩
  · split
    · rename_i sx
      rw [List.pairwise_flatMap]
      refine ⟨fun y hy => ?_, ?_⟩
      · split
        · exact List.pairwise_singleton _ _
        · exact List.Pairwise.nil
      · refine List.Pairwise.imp_of_mem ?_ hL.2.2
        intro y v hy hv hne a ha b hb
        split at ha
        · rename_i c1
          split at hb
          · rename_i c2
            rw [List.mem_singleton.mp ha, List.mem_singleton.mp hb]
            exact fun e => hne (key x hx y hy x hx v hv sx c1.1 sx c2.1 c1.2 e).2
          · exact absurd hb List.not_mem_nil
        · exact absurd ha List.not_mem_nil
    · exact List.Pairwise.nil
  · refine List.Pairwise.imp_of_mem ?_ hL.2.2
    intro x u hx hu hne a ha b hb
    obtain ⟨sx, y, hy, sy, hd, rfl⟩ := inM ha
    obtain ⟨su, v, hv, sv, hd2, rfl⟩ := inM hb
    exact fun e => hne (key x hx y hy u hu v hv sx sy su sv hd e).1
theorem ge_all_pw (hL : ge_Bd R τ L) (he : ∀ x ∈ L, ∀ y ∈ L, ge_s h x.1 < 0 → 0 < ge_s h y.1 → (ed x y = true ↔ ge_ed R x.1 y.1)) : (L ++ ge_new h ed nt L L).Pairwise (fun x y => ¬ ge_e x.1 y.1) := by
  rw [List.pairwise_append]
  refine ⟨hL.2.2, ge_new_pw hL he, fun x hx z hz e => ?_⟩
  obtain ⟨v1, g1, s1, n1⟩ := ge_new_V hL he hz
  exact n1 (ge_e_V e (hL.1 x hx).1.1.1 v1.1.1 (hL.1 x hx).1)
/-- how many points stand at once -/
theorem ge_all_len (hL : ge_Bd R τ L) (he : ∀ x ∈ L, ∀ y ∈ L, ge_s h x.1 < 0 → 0 < ge_s h y.1 → (ed x y = true ↔ ge_ed R x.1 y.1)) : L.length ≤ 2 * R.length ∧ (ge_new h ed nt L L).length ≤ 2 * (R.length + 1) := by
  constructor
  · have := ge_count (R := R) (Ps := L.map Prod.fst) (fun p hp => by
      obtain ⟨x, hx, rfl⟩ := List.mem_map.mp hp
      exact (hL.1 x hx).1) (List.pairwise_map.mpr hL.2.2)
    rwa [List.length_map] at this
  · have := ge_count (R := h :: R) (Ps := (ge_new h ed nt L L).map Prod.fst) (fun p hp => by
      obtain ⟨x, hx, rfl⟩ := List.mem_map.mp hp
      exact (ge_new_V hL he hx).1) (List.pairwise_map.mpr (ge_new_pw hL he))
    rwa [List.length_map, List.length_cons] at this
/-- the body that was cut -/
theorem ge_cut_list (hB : ge_B R) (hL : ge_Bd R τ L) (he : ∀ x ∈ L, ∀ y ∈ L, ge_s h x.1 < 0 → 0 < ge_s h y.1 → (ed x y = true ↔ ge_ed R x.1 y.1)) (h1 : ∀ x ∈ L, ge_s h x.1 ≤ 0 → τ' x.1 x.2) (h2 : ∀ x ∈ L, ∀ y ∈ L, ge_s h x.1 < 0 → 0 < ge_s h y.1 → ge_ed R x.1 y.1 → τ' (ge_pp (ge_cr h x.1 y.1)) (nt x.2 y.2)) : ge_Bd (h :: R) τ' ((L ++ ge_new h ed nt L L).filter (fun x => decide (ge_s h x.1 ≤ 0))) := by
  refine ⟨fun z hz => ?_, fun v hv => ?_, List.Pairwise.filter _ (ge_all_pw hL he)⟩
  · obtain ⟨hz, hs⟩ := List.mem_filter.mp hz
    have hs := of_decide_eq_true hs
    rcases List.mem_append.mp hz with hz | hz
    · obtain ⟨a, b, c⟩ := hL.1 z hz
      exact ⟨ge_V_cons a hs, b, h1 z hz hs⟩
    · obtain ⟨a, b, c, d⟩ := ge_new_V hL he hz
      obtain ⟨x, hx, y, hy, sx, sy, hd, rfl⟩ := ge_new_mem.mp hz
      exact ⟨a, b, h2 x hx y hy sx sy ((he x hx y hy sx sy).mp hd)⟩
  · rcases ge_cut hB hv with ⟨hV, hs⟩ | ⟨p, q, hp, hq, sp, sq, hd, e⟩
    · obtain ⟨x, hx, ex⟩ := hL.2.1 v hV
      have k := ge_sgn (ge_e_s ex h) hV.1.1 (hL.1 x hx).1.1.1
      exact ⟨x, List.mem_filter.mpr ⟨List.mem_append_left _ hx, decide_eq_true (k.1.mpr hs)⟩, ex⟩
    · obtain ⟨x, hx, ex⟩ := hL.2.1 p hp
      obtain ⟨y, hy, ey⟩ := hL.2.1 q hq
      have vx := (hL.1 x hx).1
      have vy := (hL.1 y hy).1
      have k1 := ge_sgn (ge_e_s ex h) hp.1.1 vx.1.1
      have k2 := ge_sgn (ge_e_s ey h) hq.1.1 vy.1.1
      have sx : ge_s h x.1 < 0 := by
        have a1 := k1.1.mpr (by omega)
        have a2 := fun w => k1.2.mp w
        by_cases hz : ge_s h x.1 = 0
        · have := a2 hz
          omega
        · omega
      have sy : 0 < ge_s h y.1 := by
        apply Classical.byContradiction
        intro w
        have := k2.1.mp (by omega)
        omega
      have hed := ge_ed_e ex ey hp.1.1 hq.1.1 vx.1.1 vy.1.1 hd
      have w := ge_cr_w vx.1 vy.1 sx sy
      obtain ⟨e1, g, wp⟩ := ge_pp_ok w
      have w2 := ge_cr_w hp.1 hq.1 sp sq
      have ez : ge_e (ge_pp (ge_cr h x.1 y.1)) v := ge_e_tr e1 (ge_e_tr (ge_cr_e ex ey (by have := hp.1.1; omega) (by have := hq.1.1; omega)) e (by omega)) (by omega)
      have hm : (ge_pp (ge_cr h x.1 y.1), nt x.2 y.2) ∈ ge_new h ed nt L L := ge_new_mem.mpr ⟨x, hx, y, hy, sx, sy, (he x hx y hy sx sy).mpr hed, rfl⟩
      exact ⟨_, List.mem_filter.mpr ⟨List.mem_append_right _ hm, decide_eq_true (Int.le_of_eq (ge_new_V hL he hm).2.2.1)⟩, ez⟩
end GCL

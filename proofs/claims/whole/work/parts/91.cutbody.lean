/-! ===== the reference's body: cut by a row more it is a body ===== -/
def jm_body (σ : jw_H) (β : List (Nat × ge_R)) (L : List (ge_R × Int)) : Prop := jm_is σ L ∧ ge_Bd (jm_RR (σ 103 3) β) (jm_tau β) L ∧ ge_B (jm_RR (σ 103 3) β) ∧ jm_nrm σ β ∧ jm_Ns σ ∧ jm_flat (σ 103 3) β ∧ jm_key β
theorem jm_RR_cons (q : Int) (b : Nat) (h : ge_R) (β : List (Nat × ge_R)) : jm_RR q ((b, h) :: β) = h :: jm_RR q β := rfl
theorem jm_tau_bit {β : List (Nat × ge_R)} {b : Int} {h : ge_R} {x : ge_R × Int} (b0 : 0 ≤ b) (b1 : b < 20) (hf : ∀ r, (b.toNat, r) ∉ β) (hx : jm_tau β x.1 x.2) : jm_tau ((b.toNat, h) :: β) (jm_bit b h x).1 (jm_bit b h x).2 := by
  obtain ⟨t0, t1, ht⟩ := hx
  obtain ⟨o, ho⟩ := jm_one_in b0 b1
  obtain ⟨u0, u1⟩ := jm_bit_tt (h := h) (x := x) b0 b1 ⟨t0, t1⟩
  refine ⟨u0, u1, fun k hk => ?_⟩
  have old : (∃ r, (k, r) ∈ (b.toNat, h) :: β ∧ ge_s r x.1 = 0) ↔ (k = b.toNat ∧ ge_s h x.1 = 0) ∨ ∃ r, (k, r) ∈ β ∧ ge_s r x.1 = 0 := by
    constructor
    · rintro ⟨r, hr, e⟩
      rcases List.mem_cons.mp hr with hr | hr
      · cases hr
        exact .inl ⟨rfl, e⟩
      · exact .inr ⟨r, hr, e⟩
    · rintro (⟨rfl, e⟩ | ⟨r, hr, e⟩)
      · exact ⟨h, List.mem_cons_self, e⟩
      · exact ⟨r, List.mem_cons_of_mem _ hr, e⟩
  show jb_in (jm_bit b h x).2 k ↔ ∃ r, (k, r) ∈ (b.toNat, h) :: β ∧ ge_s r x.1 = 0
  rw [old]
  simp only [jm_bit]
  by_cases hs : ge_s h x.1 = 0
  · rw [if_pos hs, jm_or_in ⟨t0, t1⟩ o, ho, ht k hk]
    constructor
    · rintro (a | a)
      · exact .inr a
      · exact .inl ⟨by omega, hs⟩
    · rintro (⟨a, -⟩ | a)
      · exact .inr (by omega)
      · exact .inl a
  · rw [if_neg hs, ht k hk]
    constructor
    · exact .inr
    · rintro (⟨-, a⟩ | a)
      · exact absurd a hs
      · exact a
theorem jm_cut_body {n : Nat} {σ : jw_H} {β : List (Nat × ge_R)} {L : List (ge_R × Int)} {b u S X : Int} (q1 : 1 ≤ σ 103 3) (q2 : σ 103 3 ≤ 3) (H : jm_body σ β L) (b0 : 0 ≤ b) (b1 : b < 20) (hf : ∀ r, (b.toNat, r) ∉ β) (hfl : (σ 103 3 ≤ 2 → (jm_rw σ b u).2.2.1 = 0) ∧ (σ 103 3 ≤ 1 → (jm_rw σ b u).2.1 = 0)) (hlen : (jm_RR (σ 103 3) β).length ≤ 14) (S0 : 0 ≤ S) (hS2 : S ≤ 9200000000000000000) (hX2 : X ≤ 9200000000000000000) (hS : S * X ≤ 4600000000000000000) (hbd : ∀ v, ge_V (jm_RR (σ 103 3) β) v → ge_g v = 1 → jm_in4 X v ∧ -S ≤ ge_s (jm_rw σ b u) v ∧ ge_s (jm_rw σ b u) v ≤ S) (hbn : ∀ v, ge_V (jm_rw σ b u :: jm_RR (σ 103 3) β) v → ge_g v = 1 → jm_in4 X v) : jw_T (js_S n) 4 240 [.inr (.inr 103), .inl b, .inr (.inl u)] σ (fun r σ' => r = none ∧ jm_fr σ σ' ∧ ∃ L', jm_body σ' ((b.toNat, jm_rw σ b u) :: β) L') := by
  obtain ⟨his, hBd, hB, hn, hN, hfa, hk⟩ := H
  have tauL : ∀ x ∈ L, jm_tau β x.1 x.2 := fun x hx => (hBd.1 x hx).2.2
  have hL1 : ge_Bd (jm_RR (σ 103 3) β) (jm_tau ((b.toNat, jm_rw σ b u) :: β)) (L.map (jm_bit b (jm_rw σ b u))) := by
    refine ⟨fun x hx => ?_, fun v hv => ?_, List.pairwise_map.mpr hBd.2.2⟩
    · obtain ⟨y, hy, rfl⟩ := List.mem_map.mp hx
      exact ⟨(hBd.1 y hy).1, (hBd.1 y hy).2.1, jm_tau_bit b0 b1 hf (tauL y hy)⟩
    · obtain ⟨x, hx, e⟩ := hBd.2.1 v hv
      exact ⟨_, List.mem_map.mpr ⟨x, hx, rfl⟩, e⟩
  have low : ∀ x ∈ L.map (jm_bit b (jm_rw σ b u)), ge_s (jm_rw σ b u) x.1 ≠ 0 → jm_tau β x.1 x.2 := by
    intro x hx hs
    obtain ⟨y, hy, rfl⟩ := List.mem_map.mp hx
    have e : jm_bit b (jm_rw σ b u) y = y := by
      have hs2 : ¬ ge_s (jm_rw σ b u) y.1 = 0 := hs
      simp only [jm_bit, if_neg hs2]
    rw [e]
    exact tauL y hy
  have he : ∀ x ∈ L.map (jm_bit b (jm_rw σ b u)), ∀ y ∈ L.map (jm_bit b (jm_rw σ b u)), ge_s (jm_rw σ b u) x.1 < 0 → 0 < ge_s (jm_rw σ b u) y.1 → (jm_ed σ x y = true ↔ ge_ed (jm_RR (σ 103 3) β) x.1 y.1) := by
    intro x hx y hy sx sy
    have a := jm_LL_ed q1 q2 hn hfa hk (low x hx (by omega)) (low y hy (by omega)) (hL1.1 x hx).1.1 (hL1.1 y hy).1.1
    rw [← a]
    exact @decide_eq_true_iff _ (Classical.propDecidable _)
  obtain ⟨l1, l2⟩ := ge_all_len (h := jm_rw σ b u) (nt := jm_nt b) hL1 he
  rw [List.length_map] at l1
  have hnew : ∀ z ∈ ge_new (jm_rw σ b u) (jm_ed σ) (jm_nt b) (L.map (jm_bit b (jm_rw σ b u))) (L.map (jm_bit b (jm_rw σ b u))), jm_in4 X z.1 := fun z hz => by
    obtain ⟨a1, a2, -, -⟩ := ge_new_V hL1 he hz
    exact hbn z.1 a1 a2
  refine jw_T_mono (jm_cuts (S := S) (X := X) hN q1 q2 b0 b1 his S0 (fun x hx => (hbd x.1 (hBd.1 x hx).1 (hBd.1 x hx).2.1).2) hS2 hX2 hS (fun x hx => ⟨(tauL x hx).1, (tauL x hx).2.1⟩) (fun x hx => ⟨(hbd x.1 (hBd.1 x hx).1 (hBd.1 x hx).2.1).1, (hBd.1 x hx).2.1⟩) (by omega) hnew) (Nat.le_refl _) ?_
  rintro r σ' ⟨rfl, hfr, his'⟩
  obtain ⟨f1, f2, f3, f4⟩ := jm_fr_N hfr
  have tb := (Int.toNat_of_nonneg b0)
  refine ⟨rfl, hfr, _, his', ?_, ?_, ?_, f3 hN, ?_, ?_⟩
  · rw [f2, jm_RR_cons]
    refine ge_cut_list hB hL1 he (fun x hx _ => (hL1.1 x hx).2.2) (fun x hx y hy sx sy hd => ?_)
    have vx := (hL1.1 x hx).1
    have vy := (hL1.1 y hy).1
    obtain ⟨x0, x1, hx2⟩ := low x hx (by omega)
    obtain ⟨y0, y1, hy2⟩ := low y hy (by omega)
    obtain ⟨o, ho⟩ := jm_one_in b0 b1
    have ha := jm_tt ⟨x0, x1⟩ ⟨y0, y1⟩
    have hor : 0 ≤ jm_nt b x.2 y.2 ∧ jm_nt b x.2 y.2 ≤ 1048575 := by
      unfold jm_nt
      rw [jb_or (by omega) (by omega) (by omega) (by omega)]
      have := Nat.or_lt_two_pow (n := 20) (x := (jw_and x.2 y.2).toNat) (y := (jw_shl 1 b).toNat) (by omega) (by omega)
      omega
    have w := ge_cr_w vx.1 vy.1 sx sy
    obtain ⟨e, g, wp⟩ := ge_pp_ok w
    have z : ∀ r, ge_s r (ge_pp (ge_cr (jm_rw σ b u) x.1 y.1)) = 0 ↔ ge_s r (ge_cr (jm_rw σ b u) x.1 y.1) = 0 := fun r => (ge_sgn (ge_e_s e r) w wp).2
    refine ⟨hor.1, hor.2, fun k hk20 => ?_⟩
    unfold jm_nt
    rw [jm_or_in ha o, jm_and_in ⟨x0, x1⟩ ⟨y0, y1⟩, ho, hx2 k hk20, hy2 k hk20]
    constructor
    · rintro (⟨⟨r, hr, e1⟩, r', hr', e2⟩ | hb)
      · rw [hk k r' r hr' hr] at e2
        refine ⟨r, List.mem_cons_of_mem _ hr, (z r).mpr ?_⟩
        exact (ge_cr_on (List.mem_append_left _ (List.mem_map.mpr ⟨_, hr, rfl⟩)) vx.1 vy.1 sx sy).mpr ⟨e1, e2⟩
      · have : k = b.toNat := by omega
        subst this
        exact ⟨_, List.mem_cons_self, (z _).mpr (ge_cr_h _ _ _)⟩
    · rintro ⟨r, hr, e1⟩
      rcases List.mem_cons.mp hr with hr | hr
      · cases hr
        right
        omega
      · left
        have := (ge_cr_on (List.mem_append_left _ (List.mem_map.mpr ⟨_, hr, rfl⟩)) vx.1 vy.1 sx sy).mp ((z r).mp e1)
        exact ⟨⟨r, hr, this.1⟩, r, hr, this.2⟩
  · rw [f2, jm_RR_cons]
    exact ge_B_cons hB
  · intro k r hr
    rcases List.mem_cons.mp hr with hr | hr
    · cases hr
      refine ⟨by omega, .inl ?_⟩
      rw [f1, tb]
      rfl
    · obtain ⟨c1, c2⟩ := hn k r hr
      rw [f1]
      exact ⟨c1, c2⟩
  · intro k r hr
    rw [f2]
    rcases List.mem_cons.mp hr with hr | hr
    · cases hr
      exact hfl
    · exact hfa k r hr
  · intro k r t hr ht
    rcases List.mem_cons.mp hr with hr | hr
    · cases hr
      rcases List.mem_cons.mp ht with ht | ht
      · cases ht
        rfl
      · exact absurd ht (hf t)
    · rcases List.mem_cons.mp ht with ht | ht
      · cases ht
        exact absurd hr (hf r)
      · exact hk k r t hr ht

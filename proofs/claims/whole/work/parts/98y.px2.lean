/-! ===== the class: its fractions ===== -/
/-- Euclid's rounds: so many are enough -/
def jx_eb : Nat → Int → Int → Prop
  | 0, _, b => b = 0
  | f + 1, a, b => b = 0 ∨ jx_eb f b (a % b)
theorem jx_eb_up : ∀ {f : Nat} {a b : Int}, jx_eb f a b → jx_eb (f + 1) a b
  | 0, _, _, h => .inl h
  | f + 1, _, _, h => h.imp id (fun h => jx_eb_up h)
theorem jx_eb_pow : ∀ (m : Nat) {a b : Int}, 0 ≤ b → b < ((2 ^ m : Nat) : Int) → jx_eb (2 * m) a b
  | 0, a, b, h0, h1 => by
    show b = 0
    simp at h1
    omega
  | m + 1, a, b, h0, h1 => by
    by_cases hb : b = 0
    · exact .inl hb
    · refine .inr ?_
      have r0 := Int.emod_nonneg a hb
      have r1 := Int.emod_lt_of_pos a (show 0 < b by omega)
      by_cases hr : a % b = 0
      · exact .inl hr
      · refine .inr ?_
        have s0 := Int.emod_nonneg b hr
        have s1 := Int.emod_lt_of_pos b (show 0 < a % b by omega)
        refine jx_eb_pow m s0 ?_
        have e := Int.emod_add_mul_ediv b (a % b)
        have q1 : 1 ≤ b / (a % b) := Int.le_ediv_of_mul_le (by omega) (by omega)
        have q2 : a % b ≤ a % b * (b / (a % b)) := by
          have := Int.mul_le_mul_of_nonneg_left q1 (show 0 ≤ a % b by omega)
          omega
        have e2 : ((2 ^ (m + 1) : Nat) : Int) = 2 * ((2 ^ m : Nat) : Int) := by
          rw [Nat.pow_succ]
          omega
        omega
theorem jx_div_loop {n : Nat} {σ : jw_H} {D : Nat} {a b : Int} {Q : Option jw_V → jw_H → Prop} : ∀ (f : Nat) {x y k : Int} {z : Option jw_V}, 0 ≤ x → x ≤ 9223372036854775807 → 0 ≤ y → y ≤ 9223372036854775807 → jx_eb f x y → 0 ≤ k → k + f ≤ 999 → Q (some (.inr (.inl (Int.gcd x y : Int)))) σ → jw_W (js_S n) D md_41 8 [some (.inr (.inl a)), none, some (.inr (.inl b)), none, some (.inr (.inl x)), none, some (.inr (.inl y)), none, some (.inl k), z, none] [] σ Q
  | f, x, y, k, z, x0, x1, y0, y1, H, k0, hk, hQ => by
    refine jw_W_n 2 (i' := 10) (ls' := [some (.inr (.inl a)), none, some (.inr (.inl b)), none, some (.inr (.inl x)), none, some (.inr (.inl y)), none, some (.inl k), z, none]) (st' := [.inl 1000, .inl k]) rfl ?_
    refine jw_W_ic rfl (by unfold jw_rg; omega) (by unfold jw_rg; omega) (fun hc1 => ?_) (fun hc1 => ?_)
    · have hc1 : k ≥ 1000 := hc1
      refine jw_W_n 1 (i' := 26) (ls' := [some (.inr (.inl a)), none, some (.inr (.inl b)), none, some (.inr (.inl x)), none, some (.inr (.inl y)), none, some (.inl k), z, none]) (st' := [.inr (.inl x)]) rfl ?_
      refine jw_W_lr rfl ?_
      have hy : y = 0 := by omega
      rw [hy, Int.gcd_zero_right, show ((x.natAbs : Nat) : Int) = x by omega] at hQ
      exact hQ
    · have hc1 : ¬ (k ≥ 1000) := hc1
      refine jw_W_n 2 (i' := 13) (ls' := [some (.inr (.inl a)), none, some (.inr (.inl b)), none, some (.inr (.inl x)), none, some (.inr (.inl y)), none, some (.inl k), z, none]) (st' := [.inr (.inl 0), .inr (.inl y)]) rfl ?_
      refine jw_W_lc rfl rfl (by unfold jw_rgl; omega) (by unfold jw_rgl; omega) (fun hc2 => ?_) (fun hc2 => ?_)
      · have hc2 : y = 0 := hc2
        refine jw_W_n 1 (i' := 26) (ls' := [some (.inr (.inl a)), none, some (.inr (.inl b)), none, some (.inr (.inl x)), none, some (.inr (.inl y)), none, some (.inl k), z, none]) (st' := [.inr (.inl x)]) rfl ?_
        refine jw_W_lr rfl ?_
        have hy : y = 0 := by omega
        rw [hy, Int.gcd_zero_right, show ((x.natAbs : Nat) : Int) = x by omega] at hQ
        exact hQ
      · have hc2 : ¬ (y = 0) := hc2
        refine jw_W_n 2 (i' := 17) (ls' := [some (.inr (.inl a)), none, some (.inr (.inl b)), none, some (.inr (.inl x)), none, some (.inr (.inl y)), none, some (.inl k), z, none]) (st' := [.inr (.inl y), .inr (.inl x)]) rfl ?_
        refine jw_W_lrem rfl (by unfold jw_rgl; omega) (by omega) ?_
        rw [jm_lrem x0 x1 (by omega) y1]
        refine jw_W_n 7 (i' := 8) (ls' := [some (.inr (.inl a)), none, some (.inr (.inl b)), none, some (.inr (.inl y)), none, some (.inr (.inl (x % y))), none, some (.inl (k + 1)), some (.inr (.inl (x % y))), none]) (st' := []) rfl ?_
        match f, H, hk with
        | 0, H, hk => exact absurd (show y = 0 from H) (by omega)
        | f + 1, H, hk =>
          refine jx_div_loop f y0 y1 (Int.emod_nonneg x (by omega)) (by have := Int.emod_lt_of_pos x (show 0 < y by omega); omega) (H.resolve_left (by omega)) (by omega) (by omega) ?_
          rw [jm_gcd_step x0 (by omega)]
          exact hQ
theorem jx_divisor {n : Nat} {σ : jw_H} {a b : Int} (ha : jm_bg a) (hb : jm_bg b) : jw_T (js_S n) 1 41 [.inr (.inl a), .inr (.inl b)] σ (fun r σ' => r = some (.inr (.inl (Int.gcd a b : Int))) ∧ σ' = σ) := by
  refine jw_T_of (D := 0) (M := mm_41) rfl (Nat.le_of_ble_eq_true rfl) (ls0 := [some (.inr (.inl a)), none, some (.inr (.inl b)), none, none, none, none, none, none, none, none]) rfl ?_ (by rintro _ _ ⟨rfl, -⟩; rfl)
  unfold jm_bg at ha hb
  refine jw_W_n 1 (i' := 1) (ls' := [some (.inr (.inl a)), none, some (.inr (.inl b)), none, none, none, none, none, none, none, none]) (st' := [.inr (.inl a)]) rfl ?_
  refine jw_W_labs rfl rfl (by unfold jw_rgl; omega) (Nat.le_of_ble_eq_true rfl) ?_
  have ea : (if 0 < a then a else -a) = ((a.natAbs : Nat) : Int) := by split <;> omega
  rw [ea]
  refine jw_W_n 2 (i' := 4) (ls' := [some (.inr (.inl a)), none, some (.inr (.inl b)), none, some (.inr (.inl (((a.natAbs : Nat) : Int)))), none, none, none, none, none, none]) (st' := [.inr (.inl b)]) rfl ?_
  refine jw_W_labs rfl rfl (by unfold jw_rgl; omega) (Nat.le_of_ble_eq_true rfl) ?_
  have eb : (if 0 < b then b else -b) = ((b.natAbs : Nat) : Int) := by split <;> omega
  rw [eb]
  refine jw_W_n 3 (i' := 8) (ls' := [some (.inr (.inl a)), none, some (.inr (.inl b)), none, some (.inr (.inl (((a.natAbs : Nat) : Int)))), none, some (.inr (.inl (((b.natAbs : Nat) : Int)))), none, some (.inl 0), none, none]) (st' := []) rfl ?_
  refine jx_div_loop 126 (by omega) (by omega) (by omega) (by omega) (jx_eb_pow 63 (by omega) (by
    have : ((2 ^ 63 : Nat) : Int) = 9223372036854775808 := by decide
    omega)) (by omega) (by omega) ?_
  refine ⟨?_, rfl⟩
  simp only [Int.gcd, Int.natAbs_natCast]
/-- o is an object that holds a fraction -/
def jx_fo (n o : Nat) : Prop := (o = 93 ∨ o = 94 ∨ o = 97 ∨ o = 98 ∨ o = 99) ∧ (js_S n)[o]? = some (.inl (1, [1, 1]))
theorem jx_fo_93 (n : Nat) : jx_fo n 93 := ⟨by omega, rfl⟩
theorem jx_fo_94 (n : Nat) : jx_fo n 94 := ⟨by omega, rfl⟩
theorem jx_fo_97 (n : Nat) : jx_fo n 97 := ⟨by omega, rfl⟩
theorem jx_fo_98 (n : Nat) : jx_fo n 98 := ⟨by omega, rfl⟩
theorem jx_fo_99 (n : Nat) : jx_fo n 99 := ⟨by omega, rfl⟩
/-- a fraction laid without a common divisor, the lower number above 0 -/
def jx_fr (u l : Int) : Int × Int := if l < 0 then (-(u / (Int.gcd u l : Int)), -(l / (Int.gcd u l : Int))) else (u / (Int.gcd u l : Int), l / (Int.gcd u l : Int))
/-- the store with a fraction told anew -/
def jx_fs (σ : jw_H) (o : Nat) (v : Int × Int) : jw_H := jw_up (jw_up σ o 0 v.1) o 1 v.2
theorem jx_fs_4 (σ : jw_H) (o : Nat) (a b c d : Int) : jw_up (jw_up (jw_up (jw_up σ o 0 a) o 1 b) o 0 c) o 1 d = jx_fs σ o (c, d) := by
  funext o' j
  simp only [jx_fs, jw_up]
  repeat' split
  all_goals rfl
theorem jx_fs_o (σ : jw_H) {o o' : Nat} (v : Int × Int) (h : o' ≠ o) : jx_fs σ o v o' = σ o' := by
  unfold jx_fs
  rw [jw_up_out _ _ _ h, jw_up_out _ _ _ h]
theorem jx_fs_0 (σ : jw_H) (o : Nat) (v : Int × Int) : jx_fs σ o v o 0 = v.1 := by
  unfold jx_fs
  rw [jw_up_ne _ (by omega), jw_up_eq]
theorem jx_fs_1 (σ : jw_H) (o : Nat) (v : Int × Int) : jx_fs σ o v o 1 = v.2 := by
  unfold jx_fs
  rw [jw_up_eq]
theorem jx_fr_pos {u l : Int} (h : l ≠ 0) : 0 < (jx_fr u l).2 := by
  have g0 := Int.gcd_pos_of_ne_zero_right u h
  obtain ⟨m, hm⟩ := Int.gcd_dvd_right u l
  have hd : l / (Int.gcd u l : Int) = m := by
    generalize hg : (Int.gcd u l : Int) = g at *
    rw [hm, Int.mul_ediv_cancel_left m (by omega)]
  have hp : ∀ x : Int, 0 < x → x * m < 0 → m < 0 := fun x h1 h2 => by
    by_cases hm0 : m < 0
    · exact hm0
    · have := Int.mul_nonneg (show 0 ≤ x by omega) (show 0 ≤ m by omega)
      omega
  have hq : ∀ x : Int, 0 < x → 0 < x * m → 0 < m := fun x h1 h2 => by
    by_cases hm0 : 0 < m
    · exact hm0
    · have := ge_mul_pn (show 0 ≤ x by omega) (show m ≤ 0 by omega)
      omega
  unfold jx_fr
  split
  · have := hp _ (by omega) (show (Int.gcd u l : Int) * m < 0 by omega)
    simp only
    omega
  · have := hq _ (by omega) (show 0 < (Int.gcd u l : Int) * m by omega)
    simp only
    omega
theorem jx_fr_of {u l : Int} (h : 0 < l) : (jx_fr u l).1 = jm_of u l 0 ∧ (jx_fr u l).2 = jm_of u l 1 := by
  unfold jx_fr jm_of
  rw [if_neg (by omega), if_pos rfl, if_neg (by omega)]
  exact ⟨rfl, rfl⟩
theorem jx_set {n : Nat} {σ : jw_H} {o : Nat} (hp : jx_fo n o) {u l : Int} (hu : jm_bg u) (hl : jm_bg l) (h0 : l ≠ 0) : jw_T (js_S n) 2 37 [.inr (.inr o), .inr (.inl u), .inr (.inl l)] σ (fun r σ' => r = none ∧ σ' = jx_fs σ o (jx_fr u l)) := by
  refine jw_T_of (D := 1) (M := mm_37) rfl (Nat.le_of_ble_eq_true rfl) (ls0 := [some (.inr (.inr o)), some (.inr (.inl u)), none, some (.inr (.inl l)), none, none, none, none, none]) rfl ?_ (by rintro _ _ ⟨rfl, -⟩; rfl)
  have ho := hp.1
  have g0 : 0 < (Int.gcd u l : Int) := by
    have := Int.gcd_pos_of_ne_zero_right u h0
    omega
  have g1 : (Int.gcd u l : Int) ≤ 9200000000000000000 := by
    have h2 : Int.gcd u l ≤ l.natAbs := Nat.gcd_le_right _ (by omega)
    unfold jm_bg at hl
    omega
  have f1 := jm_ldiv_ex hu g0 (by omega) (Int.gcd_dvd_left u l)
  have f2 := jm_ldiv_ex hl g0 (by omega) (Int.gcd_dvd_right u l)
  have hu2 := hu
  have hl2 := hl
  unfold jm_bg at hu2 hl2
  refine jw_W_n 2 (i' := 2) (ls' := [some (.inr (.inr o)), some (.inr (.inl u)), none, some (.inr (.inl l)), none, none, none, none, none]) (st' := [.inr (.inl l), .inr (.inl u)]) rfl ?_
  refine jw_W_call (as := [.inr (.inl u), .inr (.inl l)]) (rest := []) rfl rfl rfl rfl (Nat.le_of_ble_eq_true rfl) (.inl rfl) (jx_divisor hu hl) (by omega) ?_ rfl
  rintro r1 σ1 ⟨rfl, hs⟩
  rw [hs]
  show jw_W (js_S n) _ md_37 3 [some (.inr (.inr o)), some (.inr (.inl u)), none, some (.inr (.inl l)), none, none, none, none, none] [.inr (.inl ((Int.gcd u l : Int)))] σ _
  refine jw_W_n 3 (i' := 6) (ls' := [some (.inr (.inr o)), some (.inr (.inl u)), none, some (.inr (.inl l)), none, some (.inr (.inl ((Int.gcd u l : Int)))), none, none, none]) (st' := [.inr (.inl 0), .inr (.inr o)]) rfl ?_
  refine jw_W_pf (a := 0) rfl (by omega) hp.2 rfl rfl rfl rfl ?_
  refine jw_W_n 2 (i' := 9) (ls' := [some (.inr (.inr o)), some (.inr (.inl u)), none, some (.inr (.inl l)), none, some (.inr (.inl ((Int.gcd u l : Int)))), none, none, none]) (st' := [.inr (.inl 1), .inr (.inr o)]) rfl ?_
  refine jw_W_pf (a := 1) rfl (by omega) hp.2 rfl rfl rfl rfl ?_
  refine jw_W_n 2 (i' := 12) (ls' := [some (.inr (.inr o)), some (.inr (.inl u)), none, some (.inr (.inl l)), none, some (.inr (.inl ((Int.gcd u l : Int)))), none, none, none]) (st' := [.inr (.inl 0), .inr (.inl l)]) rfl ?_
  refine jw_W_lc rfl rfl (by unfold jw_rgl; omega) (by unfold jw_rgl; omega) (fun hc1 => ?_) (fun hc1 => ?_)
  · have hc1 : l = 0 := hc1
    omega
  · have hc1 : ¬ (l = 0) := hc1
    refine jw_W_n 2 (i' := 16) (ls' := [some (.inr (.inr o)), some (.inr (.inl u)), none, some (.inr (.inl l)), none, some (.inr (.inl ((Int.gcd u l : Int)))), none, none, none]) (st' := [.inr (.inl 0), .inr (.inl ((Int.gcd u l : Int)))]) rfl ?_
    refine jw_W_lc rfl rfl (by unfold jw_rgl; omega) (by unfold jw_rgl; omega) (fun hc2 => ?_) (fun hc2 => ?_)
    · have hc2 : ((Int.gcd u l : Int)) = 0 := hc2
      omega
    · have hc2 : ¬ (((Int.gcd u l : Int)) = 0) := hc2
      refine jw_W_n 2 (i' := 20) (ls' := [some (.inr (.inr o)), some (.inr (.inl u)), none, some (.inr (.inl l)), none, some (.inr (.inl ((Int.gcd u l : Int)))), none, none, none]) (st' := [.inr (.inl 0), .inr (.inl l)]) rfl ?_
      refine jw_W_lc rfl rfl (by unfold jw_rgl; omega) (by unfold jw_rgl; omega) (fun hc3 => ?_) (fun hc3 => ?_)
      · have hc3 : l ≥ 0 := hc3
        refine jw_W_n 6 (i' := 30) (ls' := [some (.inr (.inr o)), some (.inr (.inl u)), none, some (.inr (.inl l)), none, some (.inr (.inl ((Int.gcd u l : Int)))), none, some (.inr (.inl 1)), none]) (st' := [.inr (.inl ((Int.gcd u l : Int))), .inr (.inl u), .inr (.inl 1), .inr (.inr o)]) rfl ?_
        refine jw_W_ldiv rfl (by unfold jw_rgl; omega) (by omega) ?_
        rw [f1]
        refine jw_W_n 1 (i' := 32) (ls' := [some (.inr (.inr o)), some (.inr (.inl u)), none, some (.inr (.inl l)), none, some (.inr (.inl ((Int.gcd u l : Int)))), none, some (.inr (.inl 1)), none]) (st' := [.inr (.inl (1 * (u / (Int.gcd u l : Int)))), .inr (.inr o)]) rfl ?_
        refine jw_W_pf (a := 1 * (u / (Int.gcd u l : Int))) rfl (by omega) hp.2 rfl rfl rfl rfl ?_
        refine jw_W_n 4 (i' := 37) (ls' := [some (.inr (.inr o)), some (.inr (.inl u)), none, some (.inr (.inl l)), none, some (.inr (.inl ((Int.gcd u l : Int)))), none, some (.inr (.inl 1)), none]) (st' := [.inr (.inl ((Int.gcd u l : Int))), .inr (.inl l), .inr (.inl 1), .inr (.inr o)]) rfl ?_
        refine jw_W_ldiv rfl (by unfold jw_rgl; omega) (by omega) ?_
        rw [f2]
        refine jw_W_n 1 (i' := 39) (ls' := [some (.inr (.inr o)), some (.inr (.inl u)), none, some (.inr (.inl l)), none, some (.inr (.inl ((Int.gcd u l : Int)))), none, some (.inr (.inl 1)), none]) (st' := [.inr (.inl (1 * (l / (Int.gcd u l : Int)))), .inr (.inr o)]) rfl ?_
        refine jw_W_pf (a := 1 * (l / (Int.gcd u l : Int))) rfl (by omega) hp.2 rfl rfl rfl rfl ?_
        refine jw_W_re rfl ?_
        exact ⟨rfl, (jx_fs_4 σ o _ _ _ _).trans (by simp only [jx_fr]; first | (rw [if_pos (by omega)]; simp only [Int.neg_mul, Int.one_mul]) | (rw [if_neg (by omega)]; simp only [Int.one_mul]))⟩
      · have hc3 : ¬ (l ≥ 0) := hc3
        refine jw_W_ld2 (z := (-1)) rfl rfl ?_
        refine jw_W_n 6 (i' := 30) (ls' := [some (.inr (.inr o)), some (.inr (.inl u)), none, some (.inr (.inl l)), none, some (.inr (.inl ((Int.gcd u l : Int)))), none, some (.inr (.inl ((-1)))), none]) (st' := [.inr (.inl ((Int.gcd u l : Int))), .inr (.inl u), .inr (.inl ((-1))), .inr (.inr o)]) rfl ?_
        refine jw_W_ldiv rfl (by unfold jw_rgl; omega) (by omega) ?_
        rw [f1]
        refine jw_W_n 1 (i' := 32) (ls' := [some (.inr (.inr o)), some (.inr (.inl u)), none, some (.inr (.inl l)), none, some (.inr (.inl ((Int.gcd u l : Int)))), none, some (.inr (.inl ((-1)))), none]) (st' := [.inr (.inl ((-1) * (u / (Int.gcd u l : Int)))), .inr (.inr o)]) rfl ?_
        refine jw_W_pf (a := (-1) * (u / (Int.gcd u l : Int))) rfl (by omega) hp.2 rfl rfl rfl rfl ?_
        refine jw_W_n 4 (i' := 37) (ls' := [some (.inr (.inr o)), some (.inr (.inl u)), none, some (.inr (.inl l)), none, some (.inr (.inl ((Int.gcd u l : Int)))), none, some (.inr (.inl ((-1)))), none]) (st' := [.inr (.inl ((Int.gcd u l : Int))), .inr (.inl l), .inr (.inl ((-1))), .inr (.inr o)]) rfl ?_
        refine jw_W_ldiv rfl (by unfold jw_rgl; omega) (by omega) ?_
        rw [f2]
        refine jw_W_n 1 (i' := 39) (ls' := [some (.inr (.inr o)), some (.inr (.inl u)), none, some (.inr (.inl l)), none, some (.inr (.inl ((Int.gcd u l : Int)))), none, some (.inr (.inl ((-1)))), none]) (st' := [.inr (.inl ((-1) * (l / (Int.gcd u l : Int)))), .inr (.inr o)]) rfl ?_
        refine jw_W_pf (a := (-1) * (l / (Int.gcd u l : Int))) rfl (by omega) hp.2 rfl rfl rfl rfl ?_
        refine jw_W_re rfl ?_
        exact ⟨rfl, (jx_fs_4 σ o _ _ _ _).trans (by simp only [jx_fr]; first | (rw [if_pos (by omega)]; simp only [Int.neg_mul, Int.one_mul]) | (rw [if_neg (by omega)]; simp only [Int.one_mul]))⟩
/-- a sum of fractions, over the least number both go into -/
def jx_ad (v : Int × Int) (u l : Int) : Int × Int := jx_fr (v.1 * (l / (Int.gcd v.2 l : Int)) + u * (v.2 / (Int.gcd v.2 l : Int))) (v.2 / (Int.gcd v.2 l : Int) * l)
theorem jx_add {n : Nat} {σ : jw_H} {o : Nat} (hp : jx_fo n o) {u l : Int} (hL : jm_bg (σ o 1)) (hl : jm_bg l) (l0 : 0 < l) (hs1 : jm_bg (σ o 0 * (l / (Int.gcd (σ o 1) l : Int)) + u * (σ o 1 / (Int.gcd (σ o 1) l : Int)))) (hs2 : jm_bg (σ o 1 / (Int.gcd (σ o 1) l : Int) * l)) (hs3 : σ o 1 / (Int.gcd (σ o 1) l : Int) * l ≠ 0) : jw_T (js_S n) 3 38 [.inr (.inr o), .inr (.inl u), .inr (.inl l)] σ (fun r σ' => r = none ∧ σ' = jx_fs σ o (jx_ad (σ o 0, σ o 1) u l)) := by
  refine jw_T_of (D := 2) (M := mm_38) rfl (Nat.le_of_ble_eq_true rfl) (ls0 := [some (.inr (.inr o)), some (.inr (.inl u)), none, some (.inr (.inl l)), none, none, none]) rfl ?_ (by rintro _ _ ⟨rfl, -⟩; rfl)
  have ho := hp.1
  have g0 : 0 < (Int.gcd (σ o 1) l : Int) := by
    have := Int.gcd_pos_of_ne_zero_right (σ o 1) (show l ≠ 0 by omega)
    omega
  have g1 : (Int.gcd (σ o 1) l : Int) ≤ l := Int.le_of_dvd l0 (Int.gcd_dvd_right (σ o 1) l)
  have hl2 := hl
  unfold jm_bg at hl2
  have f1 := jm_ldiv_ex hl g0 (by omega) (Int.gcd_dvd_right (σ o 1) l)
  have f2 := jm_ldiv_ex hL g0 (by omega) (Int.gcd_dvd_left (σ o 1) l)
  refine jw_W_n 1 (i' := 1) (ls' := [some (.inr (.inr o)), some (.inr (.inl u)), none, some (.inr (.inl l)), none, none, none]) (st' := [.inr (.inr o)]) rfl ?_
  refine jw_W_gf rfl hp.2 rfl ?_
  show jw_W (js_S n) _ md_38 2 [some (.inr (.inr o)), some (.inr (.inl u)), none, some (.inr (.inl l)), none, none, none] [.inr (.inl (σ o 1))] σ _
  refine jw_W_n 1 (i' := 3) (ls' := [some (.inr (.inr o)), some (.inr (.inl u)), none, some (.inr (.inl l)), none, none, none]) (st' := [.inr (.inl l), .inr (.inl (σ o 1))]) rfl ?_
  refine jw_W_call (as := [.inr (.inl (σ o 1)), .inr (.inl l)]) (rest := []) rfl rfl rfl rfl (Nat.le_of_ble_eq_true rfl) (.inl rfl) (jx_divisor hL hl) (by omega) ?_ rfl
  rintro r1 σ1 ⟨rfl, hs⟩
  rw [hs]
  show jw_W (js_S n) _ md_38 4 [some (.inr (.inr o)), some (.inr (.inl u)), none, some (.inr (.inl l)), none, none, none] [.inr (.inl ((Int.gcd (σ o 1) l : Int)))] σ _
  refine jw_W_n 3 (i' := 7) (ls' := [some (.inr (.inr o)), some (.inr (.inl u)), none, some (.inr (.inl l)), none, some (.inr (.inl ((Int.gcd (σ o 1) l : Int)))), none]) (st' := [.inr (.inl 0), .inr (.inl l)]) rfl ?_
  refine jw_W_lc rfl rfl (by unfold jw_rgl; omega) (by unfold jw_rgl; omega) (fun hc1 => ?_) (fun hc1 => ?_)
  · have hc1 : l ≤ 0 := hc1
    omega
  · have hc1 : ¬ (l ≤ 0) := hc1
    refine jw_W_n 2 (i' := 11) (ls' := [some (.inr (.inr o)), some (.inr (.inl u)), none, some (.inr (.inl l)), none, some (.inr (.inl ((Int.gcd (σ o 1) l : Int)))), none]) (st' := [.inr (.inl 0), .inr (.inl ((Int.gcd (σ o 1) l : Int)))]) rfl ?_
    refine jw_W_lc rfl rfl (by unfold jw_rgl; omega) (by unfold jw_rgl; omega) (fun hc2 => ?_) (fun hc2 => ?_)
    · have hc2 : ((Int.gcd (σ o 1) l : Int)) = 0 := hc2
      omega
    · have hc2 : ¬ (((Int.gcd (σ o 1) l : Int)) = 0) := hc2
      refine jw_W_n 2 (i' := 15) (ls' := [some (.inr (.inr o)), some (.inr (.inl u)), none, some (.inr (.inl l)), none, some (.inr (.inl ((Int.gcd (σ o 1) l : Int)))), none]) (st' := [.inr (.inr o), .inr (.inr o)]) rfl ?_
      refine jw_W_gf rfl hp.2 rfl ?_
      show jw_W (js_S n) _ md_38 16 [some (.inr (.inr o)), some (.inr (.inl u)), none, some (.inr (.inl l)), none, some (.inr (.inl ((Int.gcd (σ o 1) l : Int)))), none] [.inr (.inl (σ o 0)), .inr (.inr o)] σ _
      refine jw_W_n 2 (i' := 18) (ls' := [some (.inr (.inr o)), some (.inr (.inl u)), none, some (.inr (.inl l)), none, some (.inr (.inl ((Int.gcd (σ o 1) l : Int)))), none]) (st' := [.inr (.inl ((Int.gcd (σ o 1) l : Int))), .inr (.inl l), .inr (.inl (σ o 0)), .inr (.inr o)]) rfl ?_
      refine jw_W_ldiv rfl (by unfold jw_rgl; omega) (by omega) ?_
      rw [f1]
      refine jw_W_n 3 (i' := 22) (ls' := [some (.inr (.inr o)), some (.inr (.inl u)), none, some (.inr (.inl l)), none, some (.inr (.inl ((Int.gcd (σ o 1) l : Int)))), none]) (st' := [.inr (.inr o), .inr (.inl u), .inr (.inl ((σ o 0) * (l / (Int.gcd (σ o 1) l : Int)))), .inr (.inr o)]) rfl ?_
      refine jw_W_gf rfl hp.2 rfl ?_
      show jw_W (js_S n) _ md_38 23 [some (.inr (.inr o)), some (.inr (.inl u)), none, some (.inr (.inl l)), none, some (.inr (.inl ((Int.gcd (σ o 1) l : Int)))), none] [.inr (.inl (σ o 1)), .inr (.inl u), .inr (.inl ((σ o 0) * (l / (Int.gcd (σ o 1) l : Int)))), .inr (.inr o)] σ _
      refine jw_W_n 1 (i' := 24) (ls' := [some (.inr (.inr o)), some (.inr (.inl u)), none, some (.inr (.inl l)), none, some (.inr (.inl ((Int.gcd (σ o 1) l : Int)))), none]) (st' := [.inr (.inl ((Int.gcd (σ o 1) l : Int))), .inr (.inl (σ o 1)), .inr (.inl u), .inr (.inl ((σ o 0) * (l / (Int.gcd (σ o 1) l : Int)))), .inr (.inr o)]) rfl ?_
      refine jw_W_ldiv rfl (by unfold jw_rgl; omega) (by omega) ?_
      rw [f2]
      refine jw_W_n 3 (i' := 28) (ls' := [some (.inr (.inr o)), some (.inr (.inl u)), none, some (.inr (.inl l)), none, some (.inr (.inl ((Int.gcd (σ o 1) l : Int)))), none]) (st' := [.inr (.inr o), .inr (.inl (((σ o 0) * (l / (Int.gcd (σ o 1) l : Int))) + (u * (σ o 1 / (Int.gcd (σ o 1) l : Int))))), .inr (.inr o)]) rfl ?_
      refine jw_W_gf rfl hp.2 rfl ?_
      show jw_W (js_S n) _ md_38 29 [some (.inr (.inr o)), some (.inr (.inl u)), none, some (.inr (.inl l)), none, some (.inr (.inl ((Int.gcd (σ o 1) l : Int)))), none] [.inr (.inl (σ o 1)), .inr (.inl (((σ o 0) * (l / (Int.gcd (σ o 1) l : Int))) + (u * (σ o 1 / (Int.gcd (σ o 1) l : Int))))), .inr (.inr o)] σ _
      refine jw_W_n 1 (i' := 30) (ls' := [some (.inr (.inr o)), some (.inr (.inl u)), none, some (.inr (.inl l)), none, some (.inr (.inl ((Int.gcd (σ o 1) l : Int)))), none]) (st' := [.inr (.inl ((Int.gcd (σ o 1) l : Int))), .inr (.inl (σ o 1)), .inr (.inl (((σ o 0) * (l / (Int.gcd (σ o 1) l : Int))) + (u * (σ o 1 / (Int.gcd (σ o 1) l : Int))))), .inr (.inr o)]) rfl ?_
      refine jw_W_ldiv rfl (by unfold jw_rgl; omega) (by omega) ?_
      rw [f2]
      refine jw_W_n 2 (i' := 33) (ls' := [some (.inr (.inr o)), some (.inr (.inl u)), none, some (.inr (.inl l)), none, some (.inr (.inl ((Int.gcd (σ o 1) l : Int)))), none]) (st' := [.inr (.inl ((σ o 1 / (Int.gcd (σ o 1) l : Int)) * l)), .inr (.inl (((σ o 0) * (l / (Int.gcd (σ o 1) l : Int))) + (u * (σ o 1 / (Int.gcd (σ o 1) l : Int))))), .inr (.inr o)]) rfl ?_
      refine jw_W_call (as := [.inr (.inr o), .inr (.inl (((σ o 0) * (l / (Int.gcd (σ o 1) l : Int))) + (u * (σ o 1 / (Int.gcd (σ o 1) l : Int))))), .inr (.inl ((σ o 1 / (Int.gcd (σ o 1) l : Int)) * l))]) (rest := []) rfl rfl rfl rfl (Nat.le_of_ble_eq_true rfl) (.inr (jx_rc hp.2)) (jx_set hp hs1 hs2 (by omega)) (by omega) ?_ rfl
      rintro r1 σ1 ⟨rfl, rfl⟩
      show jw_W (js_S n) _ md_38 34 [some (.inr (.inr o)), some (.inr (.inl u)), none, some (.inr (.inl l)), none, some (.inr (.inl ((Int.gcd (σ o 1) l : Int)))), none] [] ((jx_fs σ o (jx_ad (σ o 0, σ o 1) u l))) _
      refine jw_W_re rfl ?_
      exact ⟨rfl, rfl⟩
theorem jx_isBelow {n : Nat} {σ : jw_H} {o : Nat} (hp : jx_fo n o) {u l : Int} (h1 : jm_bg (σ o 0 * l)) (h2 : jm_bg (u * σ o 1)) : jw_T (js_S n) 1 39 [.inr (.inr o), .inr (.inl u), .inr (.inl l)] σ (fun r σ' => (r = some (.inl 1) ∧ σ' = σ ∧ σ o 0 * l < u * σ o 1) ∨ (r = some (.inl 0) ∧ σ' = σ ∧ ¬ (σ o 0 * l < u * σ o 1))) := by
  refine jw_T_of (D := 0) (M := mm_39) rfl (Nat.le_of_ble_eq_true rfl) (ls0 := [some (.inr (.inr o)), some (.inr (.inl u)), none, some (.inr (.inl l)), none]) rfl ?_ (by rintro _ _ (⟨rfl, -⟩ | ⟨rfl, -⟩) <;> rfl)
  have ho := hp.1
  unfold jm_bg at h1 h2
  refine jw_W_n 1 (i' := 1) (ls' := [some (.inr (.inr o)), some (.inr (.inl u)), none, some (.inr (.inl l)), none]) (st' := [.inr (.inr o)]) rfl ?_
  refine jw_W_gf rfl hp.2 rfl ?_
  show jw_W (js_S n) _ md_39 2 [some (.inr (.inr o)), some (.inr (.inl u)), none, some (.inr (.inl l)), none] [.inr (.inl (σ o 0))] σ _
  refine jw_W_n 4 (i' := 6) (ls' := [some (.inr (.inr o)), some (.inr (.inl u)), none, some (.inr (.inl l)), none]) (st' := [.inr (.inr o), .inr (.inl u), .inr (.inl ((σ o 0) * l))]) rfl ?_
  refine jw_W_gf rfl hp.2 rfl ?_
  show jw_W (js_S n) _ md_39 7 [some (.inr (.inr o)), some (.inr (.inl u)), none, some (.inr (.inl l)), none] [.inr (.inl (σ o 1)), .inr (.inl u), .inr (.inl ((σ o 0) * l))] σ _
  refine jw_W_n 1 (i' := 8) (ls' := [some (.inr (.inr o)), some (.inr (.inl u)), none, some (.inr (.inl l)), none]) (st' := [.inr (.inl (u * (σ o 1))), .inr (.inl ((σ o 0) * l))]) rfl ?_
  refine jw_W_lc rfl rfl (by unfold jw_rgl; omega) (by unfold jw_rgl; omega) (fun hc1 => ?_) (fun hc1 => ?_)
  · have hc1 : ((σ o 0) * l) ≥ (u * (σ o 1)) := hc1
    refine jw_W_n 1 (i' := 13) (ls' := [some (.inr (.inr o)), some (.inr (.inl u)), none, some (.inr (.inl l)), none]) (st' := [.inl 0]) rfl ?_
    refine jw_W_ir rfl ?_
    exact .inr ⟨rfl, rfl, by omega⟩
  · have hc1 : ¬ (((σ o 0) * l) ≥ (u * (σ o 1))) := hc1
    refine jw_W_n 2 (i' := 13) (ls' := [some (.inr (.inr o)), some (.inr (.inl u)), none, some (.inr (.inl l)), none]) (st' := [.inl 1]) rfl ?_
    refine jw_W_ir rfl ?_
    exact .inl ⟨rfl, rfl, by omega⟩
theorem jx_part {n : Nat} {σ : jw_H} {o : Nat} (hp : jx_fo n o) {j : Int} (hj : jw_rg j) : jw_T (js_S n) 1 40 [.inr (.inr o), .inl j] σ (fun r σ' => r = some (.inr (.inl (if j = 0 then σ o 0 else σ o 1))) ∧ σ' = σ) := by
  refine jw_T_of (D := 0) (M := mm_40) rfl (Nat.le_of_ble_eq_true rfl) (ls0 := [some (.inr (.inr o)), some (.inl j)]) rfl ?_ (by rintro _ _ ⟨rfl, -⟩; rfl)
  have ho := hp.1
  have rhj := hj
  unfold jw_rg at rhj
  refine jw_W_n 1 (i' := 1) (ls' := [some (.inr (.inr o)), some (.inl j)]) (st' := [.inl j]) rfl ?_
  refine jw_W_if rfl (by unfold jw_rg; omega) (fun hc1 => ?_) (fun hc1 => ?_)
  · have hc1 : j ≠ 0 := hc1
    refine jw_W_n 1 (i' := 6) (ls' := [some (.inr (.inr o)), some (.inl j)]) (st' := [.inr (.inr o)]) rfl ?_
    refine jw_W_gf rfl hp.2 rfl ?_
    show jw_W (js_S n) _ md_40 7 [some (.inr (.inr o)), some (.inl j)] [.inr (.inl (σ o 1))] σ _
    refine jw_W_lr rfl ?_
    refine ⟨?_, rfl⟩
    first | rw [if_pos (by omega)] | rw [if_neg (by omega)]
  · have hc1 : j = 0 := Classical.not_not.mp hc1
    refine jw_W_n 1 (i' := 3) (ls' := [some (.inr (.inr o)), some (.inl j)]) (st' := [.inr (.inr o)]) rfl ?_
    refine jw_W_gf rfl hp.2 rfl ?_
    show jw_W (js_S n) _ md_40 4 [some (.inr (.inr o)), some (.inl j)] [.inr (.inl (σ o 0))] σ _
    refine jw_W_n 1 (i' := 7) (ls' := [some (.inr (.inr o)), some (.inl j)]) (st' := [.inr (.inl (σ o 0))]) rfl ?_
    refine jw_W_lr rfl ?_
    refine ⟨?_, rfl⟩
    first | rw [if_pos (by omega)] | rw [if_neg (by omega)]
theorem jx_partOf {n : Nat} {σ : jw_H} {u l j : Int} (hu : jm_bg u) (hl : jm_bg l) (h0 : l ≠ 0) (hj : jw_rg j) : jw_T (js_S n) 3 174 [.inr (.inr 13), .inr (.inl u), .inr (.inl l), .inl j] σ (fun r σ' => r = some (.inr (.inl (if j = 0 then (jx_fr u l).1 else (jx_fr u l).2))) ∧ σ' = jx_fs σ 98 (jx_fr u l)) := by
  refine jw_T_of (D := 2) (M := mm_174) rfl (Nat.le_of_ble_eq_true rfl) (ls0 := [some (.inr (.inr 13)), some (.inr (.inl u)), none, some (.inr (.inl l)), none, some (.inl j)]) rfl ?_ (by rintro _ _ ⟨rfl, -⟩; rfl)
  refine jw_W_n 1 (i' := 1) (ls' := [some (.inr (.inr 13)), some (.inr (.inl u)), none, some (.inr (.inl l)), none, some (.inl j)]) (st' := [.inr (.inr 13)]) rfl ?_
  refine jw_W_gf rfl rfl rfl ?_
  show jw_W (js_S n) _ md_174 2 [some (.inr (.inr 13)), some (.inr (.inl u)), none, some (.inr (.inl l)), none, some (.inl j)] [.inr (.inr 98)] σ _
  refine jw_W_n 2 (i' := 4) (ls' := [some (.inr (.inr 13)), some (.inr (.inl u)), none, some (.inr (.inl l)), none, some (.inl j)]) (st' := [.inr (.inl l), .inr (.inl u), .inr (.inr 98)]) rfl ?_
  refine jw_W_call (as := [.inr (.inr 98), .inr (.inl u), .inr (.inl l)]) (rest := []) rfl rfl rfl rfl (Nat.le_of_ble_eq_true rfl) (.inr rfl) (jx_set (jx_fo_98 n) hu hl h0) (by omega) ?_ rfl
  rintro r1 σ1 ⟨rfl, rfl⟩
  show jw_W (js_S n) _ md_174 5 [some (.inr (.inr 13)), some (.inr (.inl u)), none, some (.inr (.inl l)), none, some (.inl j)] [] ((jx_fs σ 98 (jx_fr u l))) _
  refine jw_W_n 1 (i' := 6) (ls' := [some (.inr (.inr 13)), some (.inr (.inl u)), none, some (.inr (.inl l)), none, some (.inl j)]) (st' := [.inr (.inr 13)]) rfl ?_
  refine jw_W_gf rfl rfl rfl ?_
  show jw_W (js_S n) _ md_174 7 [some (.inr (.inr 13)), some (.inr (.inl u)), none, some (.inr (.inl l)), none, some (.inl j)] [.inr (.inr 98)] ((jx_fs σ 98 (jx_fr u l))) _
  refine jw_W_n 1 (i' := 8) (ls' := [some (.inr (.inr 13)), some (.inr (.inl u)), none, some (.inr (.inl l)), none, some (.inl j)]) (st' := [.inl j, .inr (.inr 98)]) rfl ?_
  refine jw_W_call (as := [.inr (.inr 98), .inl j]) (rest := []) rfl rfl rfl rfl (Nat.le_of_ble_eq_true rfl) (.inr rfl) (jx_part (jx_fo_98 n) hj) (by omega) ?_ rfl
  rintro r1 σ1 ⟨rfl, hs⟩
  rw [hs]
  show jw_W (js_S n) _ md_174 9 [some (.inr (.inr 13)), some (.inr (.inl u)), none, some (.inr (.inl l)), none, some (.inl j)] [.inr (.inl (if j = 0 then jx_fs σ 98 (jx_fr u l) 98 0 else jx_fs σ 98 (jx_fr u l) 98 1))] ((jx_fs σ 98 (jx_fr u l))) _
  refine jw_W_lr rfl ?_
  refine ⟨?_, rfl⟩
  rw [jx_fs_0, jx_fs_1]

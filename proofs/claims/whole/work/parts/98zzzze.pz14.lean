/-! ===== the law, the reference: isHeld, worth, isRefused ===== -/
/-- the reference's clauses are these rules -/
def jl_mc (σ : jw_H) (L : List jl_Q) : Prop := σ 103 16 = (L.length : Int) ∧ (L.length : Int) ≤ 16 ∧ ∀ (t : Nat) (q : jl_Q), L[t]? = some q → σ 115 (t : Int) = q.1 ∧ (q.1 = 118 ∨ q.1 = 120) ∧ 0 ≤ σ 116 (t : Int) ∧ σ 117 (t : Int) = σ 116 (t : Int) + (q.2.1.length : Int) ∧ σ 118 (t : Int) = σ 117 (t : Int) + (q.2.2.length : Int) ∧ σ 118 (t : Int) ≤ 260 ∧ jl_cs σ (σ 116 (t : Int)) q.2.1 ∧ jl_cs σ (σ 117 (t : Int)) q.2.2 ∧ jl_gd true q.2.2 ∧ (q.1 = 118 → jl_gd false q.2.1)
/-- only the stack changed -/
def jl_sk (σ σ' : jw_H) : Prop := ∀ o, o ≠ 119 → σ' o = σ o
theorem jl_mc_sk {σ σ' : jw_H} {L : List jl_Q} (h : jl_mc σ L) (e : jl_sk σ σ') : jl_mc σ' L := by
  unfold jl_mc
  rw [e 103 (by omega), e 115 (by omega), e 116 (by omega), e 117 (by omega), e 118 (by omega)]
  refine ⟨h.1, h.2.1, fun t q hq => ?_⟩
  obtain ⟨h1, h2, h3, h4, h5, h6, h7, h8, h9⟩ := h.2.2 t q hq
  exact ⟨h1, h2, h3, h4, h5, h6, jl_cs_fr h7 (e 114 (by omega)), jl_cs_fr h8 (e 114 (by omega)), h9⟩
theorem jl_rt_rg {n : Nat} {b : Bool} {c : List (Int × Int)} (hg : jl_gd b c) {e : Int → Int} (hrg : ∀ j, 0 ≤ j → j < 7 → jw_rg (e j)) : jw_rg (jl_rt e c) := by
  obtain ⟨d, v, hl, rv, -, hval, -⟩ := jl_pm_all (n := n) (D := 1) (Nat.le_refl 1) hrg hg
  by_cases hd : d
  · rw [jl_rt_d hval hd]
    unfold jw_rg
    omega
  · rw [jl_rt_v hval hd]
    exact rv
theorem jl_isHeld {n : Nat} {σ : jw_H} {L : List jl_Q} (hL : jl_mc σ L) {e : Int → Int} (hrg : ∀ j, 0 ≤ j → j < 7 → jw_rg (e j)) (he : ∀ j, 0 ≤ j → j < 7 → σ 120 j = e j) {t : Nat} {q : jl_Q} (hq : L[t]? = some q) {x : Int} (hx : x = 118 ∨ x = 120)  : jw_T (js_S n) 3 210 [.inr (.inr 103), .inl ((t : Int)), .inl x] σ (fun r σ' => r = some (.inl (if q.1 = x ∧ jl_rt e q.2.2 = 1 then 1 else 0)) ∧ jl_sk σ σ') := by
  refine jw_T_of (D := 2) (M := mm_210) rfl (Nat.le_of_ble_eq_true rfl) (ls0 := [some (.inr (.inr 103)), some (.inl ((t : Int))), some (.inl x)]) rfl ?_ (by rintro _ _ ⟨rfl, -⟩; split <;> rfl)
  obtain ⟨h1, h2, h3, h4, h5, h6, h7, h8, h9, h10⟩ := hL.2.2 t q hq
  have ht : t < L.length := (List.getElem?_eq_some_iff.mp hq).1
  have hl16 := hL.2.1
  refine jw_W_n 1 (i' := 1) (ls' := [some (.inr (.inr 103)), some (.inl ((t : Int))), some (.inl x)]) (st' := [.inr (.inr 103)]) rfl ?_
  refine jw_W_gf rfl rfl rfl ?_
  show jw_W (js_S n) _ md_210 2 [some (.inr (.inr 103)), some (.inl ((t : Int))), some (.inl x)] [.inr (.inr 115)] σ _
  refine jw_W_n 1 (i' := 3) (ls' := [some (.inr (.inr 103)), some (.inl ((t : Int))), some (.inl x)]) (st' := [.inl ((t : Int)), .inr (.inr 115)]) rfl ?_
  refine jw_W_ia rfl rfl (by omega) (by omega) (by omega) ?_
  show jw_W (js_S n) _ md_210 4 [some (.inr (.inr 103)), some (.inl ((t : Int))), some (.inl x)] [.inl (σ 115 ((t : Int)))] σ _
  refine jw_W_n 1 (i' := 5) (ls' := [some (.inr (.inr 103)), some (.inl ((t : Int))), some (.inl x)]) (st' := [.inl x, .inl (σ 115 ((t : Int)))]) rfl ?_
  refine jw_W_ic rfl (by unfold jw_rg; omega) (by unfold jw_rg; omega) (fun hc1 => ?_) (fun hc1 => ?_)
  · have hc1 : (σ 115 ((t : Int))) ≠ x := hc1
    refine jw_W_n 1 (i' := 21) (ls' := [some (.inr (.inr 103)), some (.inl ((t : Int))), some (.inl x)]) (st' := [.inl 0]) rfl ?_
    refine jw_W_ir rfl ?_
    exact ⟨by rw [if_neg (by omega)], fun _ _ => rfl⟩
  · have hc1 : (σ 115 ((t : Int))) = x := Classical.not_not.mp hc1
    refine jw_W_n 2 (i' := 8) (ls' := [some (.inr (.inr 103)), some (.inl ((t : Int))), some (.inl x)]) (st' := [.inr (.inr 103), .inr (.inr 103)]) rfl ?_
    refine jw_W_gf rfl rfl rfl ?_
    show jw_W (js_S n) _ md_210 9 [some (.inr (.inr 103)), some (.inl ((t : Int))), some (.inl x)] [.inr (.inr 117), .inr (.inr 103)] σ _
    refine jw_W_n 1 (i' := 10) (ls' := [some (.inr (.inr 103)), some (.inl ((t : Int))), some (.inl x)]) (st' := [.inl ((t : Int)), .inr (.inr 117), .inr (.inr 103)]) rfl ?_
    refine jw_W_ia rfl rfl (by omega) (by omega) (by omega) ?_
    show jw_W (js_S n) _ md_210 11 [some (.inr (.inr 103)), some (.inl ((t : Int))), some (.inl x)] [.inl (σ 117 ((t : Int))), .inr (.inr 103)] σ _
    refine jw_W_n 1 (i' := 12) (ls' := [some (.inr (.inr 103)), some (.inl ((t : Int))), some (.inl x)]) (st' := [.inr (.inr 103), .inl (σ 117 ((t : Int))), .inr (.inr 103)]) rfl ?_
    refine jw_W_gf rfl rfl rfl ?_
    show jw_W (js_S n) _ md_210 13 [some (.inr (.inr 103)), some (.inl ((t : Int))), some (.inl x)] [.inr (.inr 118), .inl (σ 117 ((t : Int))), .inr (.inr 103)] σ _
    refine jw_W_n 1 (i' := 14) (ls' := [some (.inr (.inr 103)), some (.inl ((t : Int))), some (.inl x)]) (st' := [.inl ((t : Int)), .inr (.inr 118), .inl (σ 117 ((t : Int))), .inr (.inr 103)]) rfl ?_
    refine jw_W_ia rfl rfl (by omega) (by omega) (by omega) ?_
    show jw_W (js_S n) _ md_210 15 [some (.inr (.inr 103)), some (.inl ((t : Int))), some (.inl x)] [.inl (σ 118 ((t : Int))), .inl (σ 117 ((t : Int))), .inr (.inr 103)] σ _
    refine jw_W_call (as := [.inr (.inr 103), .inl (σ 117 ((t : Int))), .inl (σ 118 ((t : Int)))]) (rest := []) rfl rfl rfl rfl (Nat.le_of_ble_eq_true rfl) (.inr rfl) (jl_reckonsTo h9 hrg he (by omega) h5 h6 h8) (by omega) ?_ rfl
    rintro r1 σ1 ⟨rfl, hf⟩
    rename jw_H => σ1
    have hrr := jl_rt_rg (n := n) h9 hrg
    unfold jw_rg at hrr
    show jw_W (js_S n) _ md_210 16 [some (.inr (.inr 103)), some (.inl ((t : Int))), some (.inl x)] [.inl (jl_rt e q.2.2)] σ1 _
    refine jw_W_n 1 (i' := 17) (ls' := [some (.inr (.inr 103)), some (.inl ((t : Int))), some (.inl x)]) (st' := [.inl 1, .inl (jl_rt e q.2.2)]) rfl ?_
    refine jw_W_ic rfl (by unfold jw_rg; omega) (by unfold jw_rg; omega) (fun hc2 => ?_) (fun hc2 => ?_)
    · have hc2 : (jl_rt e q.2.2) ≠ 1 := hc2
      refine jw_W_n 1 (i' := 21) (ls' := [some (.inr (.inr 103)), some (.inl ((t : Int))), some (.inl x)]) (st' := [.inl 0]) rfl ?_
      refine jw_W_ir rfl ?_
      exact ⟨by rw [if_neg (by omega)], hf⟩
    · have hc2 : (jl_rt e q.2.2) = 1 := Classical.not_not.mp hc2
      refine jw_W_n 2 (i' := 21) (ls' := [some (.inr (.inr 103)), some (.inl ((t : Int))), some (.inl x)]) (st' := [.inl 1]) rfl ?_
      refine jw_W_ir rfl ?_
      exact ⟨by rw [if_pos (by omega)], hf⟩
theorem jl_do_c (e : Int → Int) (q : jl_Q) (L : List jl_Q) (w : Int × Int × Int) : jl_do e (q :: L) w = jl_do e L (jl_ef e q w) := rfl
theorem jl_do_f {e : Int → Int} : ∀ (L : List jl_Q) {w : Int × Int × Int}, w.2.2 ≠ 0 → (jl_do e L w).1 = w.1
  | [], w, _ => rfl
  | q :: L, w, h => by
    rw [jl_do_c]
    have k : (jl_ef e q w).1 = w.1 ∧ (jl_ef e q w).2.2 = w.2.2 := by
      unfold jl_ef
      by_cases c1 : jl_rt e q.2.2 = 1
      · rw [if_pos c1]
        by_cases c2 : q.1 = 120
        · rw [if_pos c2]
          exact ⟨rfl, rfl⟩
        · rw [if_neg c2, if_neg h]
          exact ⟨rfl, rfl⟩
      · rw [if_neg c1]
        exact ⟨rfl, rfl⟩
    rw [jl_do_f L (by rw [k.2]; exact h), k.1]
theorem jl_do_r {e : Int → Int} : ∀ (L : List jl_Q) {w : Int × Int × Int}, w.2.1 = 1 → (jl_do e L w).2.1 = 1
  | [], w, h => h
  | q :: L, w, h => by
    rw [jl_do_c]
    refine jl_do_r L ?_
    unfold jl_ef
    by_cases c1 : jl_rt e q.2.2 = 1
    · rw [if_pos c1]
      by_cases c2 : q.1 = 120
      · rw [if_pos c2]
      · rw [if_neg c2]
        split
        · exact h
        · exact h
    · rw [if_neg c1]
      exact h

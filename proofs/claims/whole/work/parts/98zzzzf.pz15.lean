/-! ===== the law, the reference: worth, isRefused ===== -/
theorem jl_min {n : Nat} {σ : jw_H} {a b : Int} (ha : jw_rg a) (hb : jw_rg b)  : jw_T (js_S n) 1 177 [.inl a, .inl b] σ (fun r σ' => r = some (.inl (if a < b then a else b)) ∧ σ' = σ) := by
  refine jw_T_of (D := 0) (M := mm_177) rfl (Nat.le_of_ble_eq_true rfl) (ls0 := [some (.inl a), some (.inl b)]) rfl ?_ (by rintro _ _ ⟨rfl, -⟩; rfl)
  have ra := ha
  have rb := hb
  unfold jw_rg at ra rb
  refine jw_W_n 2 (i' := 2) (ls' := [some (.inl a), some (.inl b)]) (st' := [.inl b, .inl a]) rfl ?_
  refine jw_W_ic rfl (by unfold jw_rg; omega) (by unfold jw_rg; omega) (fun hc1 => ?_) (fun hc1 => ?_)
  · have hc1 : a ≥ b := hc1
    refine jw_W_n 1 (i' := 6) (ls' := [some (.inl a), some (.inl b)]) (st' := [.inl b]) rfl ?_
    refine jw_W_ir rfl ?_
    exact ⟨by rw [if_neg (by omega)], rfl⟩
  · have hc1 : ¬ (a ≥ b) := hc1
    refine jw_W_n 2 (i' := 6) (ls' := [some (.inl a), some (.inl b)]) (st' := [.inl a]) rfl ?_
    refine jw_W_ir rfl ?_
    exact ⟨by rw [if_pos (by omega)], rfl⟩
theorem jl_sk_tr {σ σ' σ'' : jw_H} (h : jl_sk σ σ') (k : jl_sk σ' σ'') : jl_sk σ σ'' := fun o ho => (k o ho).trans (h o ho)
theorem jl_ef_no {e : Int → Int} {q : jl_Q} {w : Int × Int × Int} (h : ¬ (jl_rt e q.2.2 = 1)) : jl_ef e q w = w := if_neg h
theorem jl_ef_x {e : Int → Int} {q : jl_Q} {w : Int × Int × Int} (h : jl_rt e q.2.2 = 1) (hx : q.1 = 120) : jl_ef e q w = (w.1, 1, w.2.2) := by
  unfold jl_ef
  rw [if_pos h, if_pos hx]
theorem jl_ef_v {e : Int → Int} {q : jl_Q} {w : Int × Int × Int} (h : jl_rt e q.2.2 = 1) (hx : q.1 ≠ 120) : jl_ef e q w = if w.2.2 = 0 then (jl_cl (jl_rt e q.2.1), w.2.1, 1) else w := by
  unfold jl_ef
  rw [if_pos h, if_neg hx]
theorem jl_cl_rg (v : Int) : -9999 ≤ jl_cl v ∧ jl_cl v ≤ 9999 := by
  unfold jl_cl
  split <;> omega
theorem jl_worth_loop {n : Nat} {σ : jw_H} {L : List jl_Q} (hL : jl_mc σ L) {e : Int → Int} (hrg : ∀ j, 0 ≤ j → j < 7 → jw_rg (e j)) (he : ∀ j, 0 ≤ j → j < 7 → σ 120 j = e j) : ∀ (f : Nat) {t : Nat} {τ : jw_H} {w : Int × Int × Int}, t + f = L.length → w.1 = 0 → w.2.2 = 0 → jl_sk σ τ → jw_W (js_S n) 3 md_211 2 [some (.inr (.inr 103)), some (.inl ((t : Int)))] [] τ (fun r σ' => r = some (.inl (jl_do e (L.drop t) w).1) ∧ jl_sk σ σ')
  | f, t, τ, w, hk, w1, w2, hf => by
    have hl16 := hL.2.1
    have h16 := hL.1
    have e16 : τ 103 16 = (L.length : Int) := by rw [hf 103 (by omega)]; exact h16
    by_cases ht : t < L.length
    case neg =>
      have h0 : L.drop t = [] := List.drop_eq_nil_of_le (by omega)
      refine jw_W_n 2 (i' := 4) (ls' := [some (.inr (.inr 103)), some (.inl ((t : Int)))]) (st' := [.inr (.inr 103), .inl ((t : Int))]) rfl ?_
      refine jw_W_gf rfl rfl rfl ?_
      show jw_W (js_S n) _ md_211 5 [some (.inr (.inr 103)), some (.inl ((t : Int)))] [.inl (τ 103 16), .inl ((t : Int))] τ _
      refine jw_W_ic rfl (by unfold jw_rg; omega) (by unfold jw_rg; omega) (fun hc1 => ?_) (fun hc1 => ?_)
      · have hc1 : ((t : Int)) ≥ (τ 103 16) := hc1
        refine jw_W_n 1 (i' := 29) (ls' := [some (.inr (.inr 103)), some (.inl ((t : Int)))]) (st' := [.inl 0]) rfl ?_
        refine jw_W_ir rfl ?_
        exact ⟨by rw [h0]; show some (Sum.inl 0) = some (Sum.inl w.1 : jw_V); rw [w1], hf⟩
      · have hc1 : ¬ (((t : Int)) ≥ (τ 103 16)) := hc1
        exfalso; omega
    case pos =>
      have hq0 : L[t]? = some L[t] := List.getElem?_eq_getElem ht
      have hd0 : L.drop t = L[t] :: L.drop (t + 1) := List.drop_eq_getElem_cons ht
      obtain ⟨q, hqq⟩ : ∃ q : jl_Q, q = L[t] := ⟨_, rfl⟩
      rw [← hqq] at hq0 hd0
      have hq := hq0
      obtain ⟨h1, h2, h3, h4, h5, h6, h7, h8, h9, h10⟩ := hL.2.2 t q hq
      rw [hd0, jl_do_c]
      have next : ¬ (q.1 = 118 ∧ jl_rt e q.2.2 = 1) → ∀ {υ : jw_H}, jl_sk σ υ → jw_W (js_S n) 3 md_211 2 [some (.inr (.inr 103)), some (.inl ((t : Int) + 1))] [] υ (fun r σ' => r = some (.inl (jl_do e (L.drop (t + 1)) (jl_ef e q w)).1) ∧ jl_sk σ σ') := by
        intro hh υ hυ
        have hk2 : (jl_ef e q w).1 = 0 ∧ (jl_ef e q w).2.2 = 0 := by
          by_cases c1 : jl_rt e q.2.2 = 1
          · rw [jl_ef_x c1 (h2.resolve_left (fun c => hh ⟨c, c1⟩))]
            exact ⟨w1, w2⟩
          · rw [jl_ef_no c1]
            exact ⟨w1, w2⟩
        match f, hk with
        | 0, hk => omega
        | f + 1, hk => exact jl_worth_loop hL hrg he f (t := t + 1) (by omega) hk2.1 hk2.2 hυ
      have give : q.1 = 118 ∧ jl_rt e q.2.2 = 1 → ∀ {υ : jw_H}, jl_sk σ υ → some (Sum.inl (if (if 9999 < jl_rt e q.2.1 then 9999 else jl_rt e q.2.1) < -9999 then -9999 else (if 9999 < jl_rt e q.2.1 then 9999 else jl_rt e q.2.1))) = some (Sum.inl (jl_do e (L.drop (t + 1)) (jl_ef e q w)).1 : jw_V) ∧ jl_sk σ υ := by
        intro hh υ hυ
        refine ⟨?_, hυ⟩
        have hv := jl_ef_v (w := w) hh.2 (by omega)
        rw [if_pos w2] at hv
        rw [hv, jl_do_f (L.drop (t + 1)) (show (1 : Int) ≠ 0 by omega)]
        show some (Sum.inl _) = some (Sum.inl (jl_cl (jl_rt e q.2.1)) : jw_V)
        refine congrArg (fun z => some (Sum.inl z)) ?_
        unfold jl_cl
        split <;> split <;> split <;> omega
      refine jw_W_n 2 (i' := 4) (ls' := [some (.inr (.inr 103)), some (.inl ((t : Int)))]) (st' := [.inr (.inr 103), .inl ((t : Int))]) rfl ?_
      refine jw_W_gf rfl rfl rfl ?_
      show jw_W (js_S n) _ md_211 5 [some (.inr (.inr 103)), some (.inl ((t : Int)))] [.inl (τ 103 16), .inl ((t : Int))] τ _
      refine jw_W_ic rfl (by unfold jw_rg; omega) (by unfold jw_rg; omega) (fun hc1 => ?_) (fun hc1 => ?_)
      · have hc1 : ((t : Int)) ≥ (τ 103 16) := hc1
        exfalso; omega
      · have hc1 : ¬ (((t : Int)) ≥ (τ 103 16)) := hc1
        refine jw_W_n 3 (i' := 9) (ls' := [some (.inr (.inr 103)), some (.inl ((t : Int)))]) (st' := [.inl 118, .inl ((t : Int)), .inr (.inr 103)]) rfl ?_
        refine jw_W_call (as := [.inr (.inr 103), .inl ((t : Int)), .inl 118]) (rest := []) rfl rfl rfl rfl (Nat.le_of_ble_eq_true rfl) (.inr rfl) (jl_isHeld (jl_mc_sk hL hf) hrg (fun j j0 j1 => by rw [hf 120 (by omega)]; exact he j j0 j1) hq (by omega)) (by omega) ?_ rfl
        rintro r1 σ1 ⟨rfl, hf1⟩
        rename jw_H => σ1
        have hf2 := jl_sk_tr hf hf1
        show jw_W (js_S n) _ md_211 10 [some (.inr (.inr 103)), some (.inl ((t : Int)))] [.inl (if q.1 = 118 ∧ jl_rt e q.2.2 = 1 then 1 else 0)] σ1 _
        by_cases hh : q.1 = 118 ∧ jl_rt e q.2.2 = 1
        · rw [if_pos hh]
          show jw_W (js_S n) _ md_211 10 [some (.inr (.inr 103)), some (.inl ((t : Int)))] [.inl 1] σ1 _
          refine jw_W_if rfl (by unfold jw_rg; omega) (fun hc12 => ?_) (fun hc12 => ?_)
          · exact absurd hc12 (show ¬ ((1 : Int) = 0) by omega)
          · clear hc12
            refine jw_W_n 4 (i' := 15) (ls' := [some (.inr (.inr 103)), some (.inl ((t : Int)))]) (st' := [.inr (.inr 103), .inr (.inr 103), .inl 9999, .inl ((-9999))]) rfl ?_
            refine jw_W_gf rfl rfl rfl ?_
            show jw_W (js_S n) _ md_211 16 [some (.inr (.inr 103)), some (.inl ((t : Int)))] [.inr (.inr 116), .inr (.inr 103), .inl 9999, .inl ((-9999))] σ1 _
            refine jw_W_n 1 (i' := 17) (ls' := [some (.inr (.inr 103)), some (.inl ((t : Int)))]) (st' := [.inl ((t : Int)), .inr (.inr 116), .inr (.inr 103), .inl 9999, .inl ((-9999))]) rfl ?_
            refine jw_W_ia rfl rfl (by omega) (by omega) (by omega) ?_
            show jw_W (js_S n) _ md_211 18 [some (.inr (.inr 103)), some (.inl ((t : Int)))] [.inl (σ1 116 ((t : Int))), .inr (.inr 103), .inl 9999, .inl ((-9999))] σ1 _
            refine jw_W_n 1 (i' := 19) (ls' := [some (.inr (.inr 103)), some (.inl ((t : Int)))]) (st' := [.inr (.inr 103), .inl (σ1 116 ((t : Int))), .inr (.inr 103), .inl 9999, .inl ((-9999))]) rfl ?_
            refine jw_W_gf rfl rfl rfl ?_
            show jw_W (js_S n) _ md_211 20 [some (.inr (.inr 103)), some (.inl ((t : Int)))] [.inr (.inr 117), .inl (σ1 116 ((t : Int))), .inr (.inr 103), .inl 9999, .inl ((-9999))] σ1 _
            refine jw_W_n 1 (i' := 21) (ls' := [some (.inr (.inr 103)), some (.inl ((t : Int)))]) (st' := [.inl ((t : Int)), .inr (.inr 117), .inl (σ1 116 ((t : Int))), .inr (.inr 103), .inl 9999, .inl ((-9999))]) rfl ?_
            refine jw_W_ia rfl rfl (by omega) (by omega) (by omega) ?_
            show jw_W (js_S n) _ md_211 22 [some (.inr (.inr 103)), some (.inl ((t : Int)))] [.inl (σ1 117 ((t : Int))), .inl (σ1 116 ((t : Int))), .inr (.inr 103), .inl 9999, .inl ((-9999))] σ1 _
            refine jw_W_call (as := [.inr (.inr 103), .inl (σ1 116 ((t : Int))), .inl (σ1 117 ((t : Int)))]) (rest := [.inl 9999, .inl ((-9999))]) rfl rfl rfl rfl (Nat.le_of_ble_eq_true rfl) (.inr rfl) (jl_reckonsTo (h10 hh.1) hrg (fun j j0 j1 => by rw [hf2 120 (by omega)]; exact he j j0 j1) (by rw [hf2 116 (by omega)]; exact h3) (by rw [hf2 117 (by omega), hf2 116 (by omega)]; exact h4) (by rw [hf2 117 (by omega)]; omega) (by rw [hf2 116 (by omega)]; exact jl_cs_fr h7 (hf2 114 (by omega)))) (by omega) ?_ rfl
            rintro r1 σ2 ⟨rfl, hf3⟩
            rename jw_H => σ2
            have hrr := jl_rt_rg (n := n) (h10 hh.1) hrg
            have hrr2 := hrr
            unfold jw_rg at hrr2
            show jw_W (js_S n) _ md_211 23 [some (.inr (.inr 103)), some (.inl ((t : Int)))] [.inl (jl_rt e q.2.1), .inl 9999, .inl ((-9999))] σ2 _
            refine jw_W_call (as := [.inl 9999, .inl (jl_rt e q.2.1)]) (rest := [.inl ((-9999))]) rfl rfl rfl rfl (Nat.le_of_ble_eq_true rfl) (.inl rfl) (jl_min (by unfold jw_rg; omega) hrr) (by omega) ?_ rfl
            rintro r1 σz ⟨rfl, hs⟩
            rw [hs]
            show jw_W (js_S n) _ md_211 24 [some (.inr (.inr 103)), some (.inl ((t : Int)))] [.inl (if 9999 < jl_rt e q.2.1 then 9999 else jl_rt e q.2.1), .inl ((-9999))] σ2 _
            refine jw_W_call (as := [.inl ((-9999)), .inl (if 9999 < jl_rt e q.2.1 then 9999 else jl_rt e q.2.1)]) (rest := []) rfl rfl rfl rfl (Nat.le_of_ble_eq_true rfl) (.inl rfl) (jm_max (by unfold jw_rg; omega) (by unfold jw_rg; split <;> omega)) (by omega) ?_ rfl
            rintro r1 σz ⟨rfl, hs⟩
            rw [hs]
            show jw_W (js_S n) _ md_211 25 [some (.inr (.inr 103)), some (.inl ((t : Int)))] [.inl (if (if 9999 < jl_rt e q.2.1 then 9999 else jl_rt e q.2.1) < -9999 then -9999 else (if 9999 < jl_rt e q.2.1 then 9999 else jl_rt e q.2.1))] σ2 _
            refine jw_W_ir rfl ?_
            exact give hh (jl_sk_tr hf2 hf3)
        · rw [if_neg hh]
          show jw_W (js_S n) _ md_211 10 [some (.inr (.inr 103)), some (.inl ((t : Int)))] [.inl 0] σ1 _
          refine jw_W_if rfl (by unfold jw_rg; omega) (fun hc12 => ?_) (fun hc12 => ?_)
          · clear hc12
            refine jw_W_n 2 (i' := 2) (ls' := [some (.inr (.inr 103)), some (.inl (((t : Int)) + 1))]) (st' := []) rfl ?_
            exact next hh hf2
          · exact absurd hc12 (show ¬ ¬ ((0 : Int) = 0) by omega)
theorem jl_worth {n : Nat} {σ : jw_H} {L : List jl_Q} (hL : jl_mc σ L) {e : Int → Int} (hrg : ∀ j, 0 ≤ j → j < 7 → jw_rg (e j)) (he : ∀ j, 0 ≤ j → j < 7 → σ 120 j = e j)  : jw_T (js_S n) 4 211 [.inr (.inr 103)] σ (fun r σ' => r = some (.inl (jl_do e L (0, 0, 0)).1) ∧ jl_sk σ σ') := by
  refine jw_T_of (D := 3) (M := mm_211) rfl (Nat.le_of_ble_eq_true rfl) (ls0 := [some (.inr (.inr 103)), none]) rfl ?_ (by rintro _ _ ⟨rfl, -⟩; rfl)
  refine jw_W_n 2 (i' := 2) (ls' := [some (.inr (.inr 103)), some (.inl 0)]) (st' := []) rfl ?_
  exact jl_worth_loop hL hrg he L.length (t := 0) (w := (0, 0, 0)) (by omega) rfl rfl (fun _ _ => rfl)
theorem jl_ref_loop {n : Nat} {σ : jw_H} {L : List jl_Q} (hL : jl_mc σ L) {e : Int → Int} (hrg : ∀ j, 0 ≤ j → j < 7 → jw_rg (e j)) (he : ∀ j, 0 ≤ j → j < 7 → σ 120 j = e j) : ∀ (f : Nat) {t : Nat} {c : Int} {τ : jw_H} {w : Int × Int × Int}, t + f = L.length → 0 ≤ c → c ≤ (t : Int) → ((0 < c ∧ w.2.1 = 1) ∨ (c = 0 ∧ w.2.1 = 0)) → jl_sk σ τ → jw_W (js_S n) 3 md_212 4 [some (.inr (.inr 103)), some (.inl c), some (.inl ((t : Int)))] [] τ (fun r σ' => r = some (.inl (if (jl_do e (L.drop t) w).2.1 = 1 then 1 else 0)) ∧ jl_sk σ σ')
  | f, t, c, τ, w, hk, c0, ct, w1, hf => by
    have hl16 := hL.2.1
    have h16 := hL.1
    have e16 : τ 103 16 = (L.length : Int) := by rw [hf 103 (by omega)]; exact h16
    by_cases ht : t < L.length
    case neg =>
      have h0 : L.drop t = [] := List.drop_eq_nil_of_le (by omega)
      refine jw_W_n 2 (i' := 6) (ls' := [some (.inr (.inr 103)), some (.inl c), some (.inl ((t : Int)))]) (st' := [.inr (.inr 103), .inl ((t : Int))]) rfl ?_
      refine jw_W_gf rfl rfl rfl ?_
      show jw_W (js_S n) _ md_212 7 [some (.inr (.inr 103)), some (.inl c), some (.inl ((t : Int)))] [.inl (τ 103 16), .inl ((t : Int))] τ _
      refine jw_W_ic rfl (by unfold jw_rg; omega) (by unfold jw_rg; omega) (fun hc1 => ?_) (fun hc1 => ?_)
      · have hc1 : ((t : Int)) ≥ (τ 103 16) := hc1
        refine jw_W_n 1 (i' := 20) (ls' := [some (.inr (.inr 103)), some (.inl c), some (.inl ((t : Int)))]) (st' := [.inl c]) rfl ?_
        refine jw_W_if rfl (by unfold jw_rg; omega) (fun hc2 => ?_) (fun hc2 => ?_)
        · have hc2 : c ≤ 0 := hc2
          refine jw_W_n 1 (i' := 24) (ls' := [some (.inr (.inr 103)), some (.inl c), some (.inl ((t : Int)))]) (st' := [.inl 0]) rfl ?_
          refine jw_W_ir rfl ?_
          exact ⟨by rw [h0]; show some (Sum.inl 0) = some (Sum.inl (if w.2.1 = 1 then 1 else 0) : jw_V); rw [if_neg (show ¬ w.2.1 = 1 by omega)], hf⟩
        · have hc2 : ¬ (c ≤ 0) := hc2
          refine jw_W_n 2 (i' := 24) (ls' := [some (.inr (.inr 103)), some (.inl c), some (.inl ((t : Int)))]) (st' := [.inl 1]) rfl ?_
          refine jw_W_ir rfl ?_
          exact ⟨by rw [h0]; show some (Sum.inl 1) = some (Sum.inl (if w.2.1 = 1 then 1 else 0) : jw_V); rw [if_pos (show w.2.1 = 1 by omega)], hf⟩
      · have hc1 : ¬ (((t : Int)) ≥ (τ 103 16)) := hc1
        exfalso; omega
    case pos =>
      have hq0 : L[t]? = some L[t] := List.getElem?_eq_getElem ht
      have hd0 : L.drop t = L[t] :: L.drop (t + 1) := List.drop_eq_getElem_cons ht
      obtain ⟨q, hqq⟩ : ∃ q : jl_Q, q = L[t] := ⟨_, rfl⟩
      rw [← hqq] at hq0 hd0
      have hq := hq0
      obtain ⟨h1, h2, h3, h4, h5, h6, h7, h8, h9, h10⟩ := hL.2.2 t q hq
      rw [hd0, jl_do_c]
      have nextn : ¬ (q.1 = 120 ∧ jl_rt e q.2.2 = 1) → ∀ {υ : jw_H}, jl_sk σ υ → jw_W (js_S n) 3 md_212 4 [some (.inr (.inr 103)), some (.inl c), some (.inl ((t : Int) + 1))] [] υ (fun r σ' => r = some (.inl (if (jl_do e (L.drop (t + 1)) (jl_ef e q w)).2.1 = 1 then 1 else 0)) ∧ jl_sk σ σ') := by
        intro hh υ hυ
        have hk2 : (jl_ef e q w).2.1 = w.2.1 := by
          by_cases c1 : jl_rt e q.2.2 = 1
          · rw [jl_ef_v c1 (fun c => hh ⟨c, c1⟩)]
            split <;> rfl
          · rw [jl_ef_no c1]
        match f, hk with
        | 0, hk => omega
        | f + 1, hk => exact jl_ref_loop hL hrg he f (t := t + 1) (by omega) c0 (by omega) (by rw [hk2]; exact w1) hυ
      have nexty : q.1 = 120 ∧ jl_rt e q.2.2 = 1 → ∀ {υ : jw_H}, jl_sk σ υ → jw_W (js_S n) 3 md_212 4 [some (.inr (.inr 103)), some (.inl (c + 1)), some (.inl ((t : Int) + 1))] [] υ (fun r σ' => r = some (.inl (if (jl_do e (L.drop (t + 1)) (jl_ef e q w)).2.1 = 1 then 1 else 0)) ∧ jl_sk σ σ') := by
        intro hh υ hυ
        have hk2 : (jl_ef e q w).2.1 = 1 := by rw [jl_ef_x hh.2 hh.1]
        match f, hk with
        | 0, hk => omega
        | f + 1, hk => exact jl_ref_loop hL hrg he f (t := t + 1) (by omega) (by omega) (by omega) (.inl ⟨by omega, hk2⟩) hυ
      refine jw_W_n 2 (i' := 6) (ls' := [some (.inr (.inr 103)), some (.inl c), some (.inl ((t : Int)))]) (st' := [.inr (.inr 103), .inl ((t : Int))]) rfl ?_
      refine jw_W_gf rfl rfl rfl ?_
      show jw_W (js_S n) _ md_212 7 [some (.inr (.inr 103)), some (.inl c), some (.inl ((t : Int)))] [.inl (τ 103 16), .inl ((t : Int))] τ _
      refine jw_W_ic rfl (by unfold jw_rg; omega) (by unfold jw_rg; omega) (fun hc1 => ?_) (fun hc1 => ?_)
      · have hc1 : ((t : Int)) ≥ (τ 103 16) := hc1
        exfalso; omega
      · have hc1 : ¬ (((t : Int)) ≥ (τ 103 16)) := hc1
        refine jw_W_n 3 (i' := 11) (ls' := [some (.inr (.inr 103)), some (.inl c), some (.inl ((t : Int)))]) (st' := [.inl 120, .inl ((t : Int)), .inr (.inr 103)]) rfl ?_
        refine jw_W_call (as := [.inr (.inr 103), .inl ((t : Int)), .inl 120]) (rest := []) rfl rfl rfl rfl (Nat.le_of_ble_eq_true rfl) (.inr rfl) (jl_isHeld (jl_mc_sk hL hf) hrg (fun j j0 j1 => by rw [hf 120 (by omega)]; exact he j j0 j1) hq (by omega)) (by omega) ?_ rfl
        rintro r1 σ1 ⟨rfl, hf1⟩
        rename jw_H => σ1
        have hf2 := jl_sk_tr hf hf1
        show jw_W (js_S n) _ md_212 12 [some (.inr (.inr 103)), some (.inl c), some (.inl ((t : Int)))] [.inl (if q.1 = 120 ∧ jl_rt e q.2.2 = 1 then 1 else 0)] σ1 _
        by_cases hh : q.1 = 120 ∧ jl_rt e q.2.2 = 1
        · rw [if_pos hh]
          show jw_W (js_S n) _ md_212 12 [some (.inr (.inr 103)), some (.inl c), some (.inl ((t : Int)))] [.inl 1] σ1 _
          refine jw_W_if rfl (by unfold jw_rg; omega) (fun hc12 => ?_) (fun hc12 => ?_)
          · exact absurd hc12 (show ¬ ((1 : Int) = 0) by omega)
          · clear hc12
            refine jw_W_n 6 (i' := 4) (ls' := [some (.inr (.inr 103)), some (.inl (c + 1)), some (.inl (((t : Int)) + 1))]) (st' := []) rfl ?_
            exact nexty hh hf2
        · rw [if_neg hh]
          show jw_W (js_S n) _ md_212 12 [some (.inr (.inr 103)), some (.inl c), some (.inl ((t : Int)))] [.inl 0] σ1 _
          refine jw_W_if rfl (by unfold jw_rg; omega) (fun hc12 => ?_) (fun hc12 => ?_)
          · clear hc12
            refine jw_W_n 2 (i' := 4) (ls' := [some (.inr (.inr 103)), some (.inl c), some (.inl (((t : Int)) + 1))]) (st' := []) rfl ?_
            exact nextn hh hf2
          · exact absurd hc12 (show ¬ ¬ ((0 : Int) = 0) by omega)
theorem jl_isRefused {n : Nat} {σ : jw_H} {L : List jl_Q} (hL : jl_mc σ L) {e : Int → Int} (hrg : ∀ j, 0 ≤ j → j < 7 → jw_rg (e j)) (he : ∀ j, 0 ≤ j → j < 7 → σ 120 j = e j)  : jw_T (js_S n) 4 212 [.inr (.inr 103)] σ (fun r σ' => r = some (.inl (if (jl_do e L (0, 0, 0)).2.1 = 1 then 1 else 0)) ∧ jl_sk σ σ') := by
  refine jw_T_of (D := 3) (M := mm_212) rfl (Nat.le_of_ble_eq_true rfl) (ls0 := [some (.inr (.inr 103)), none, none]) rfl ?_ (by rintro _ _ ⟨rfl, -⟩; split <;> rfl)
  refine jw_W_n 4 (i' := 4) (ls' := [some (.inr (.inr 103)), some (.inl 0), some (.inl 0)]) (st' := []) rfl ?_
  exact jl_ref_loop hL hrg he L.length (t := 0) (w := (0, 0, 0)) (by omega) (by omega) (by omega) (.inr ⟨rfl, rfl⟩) (fun _ _ => rfl)

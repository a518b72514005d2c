/-! ===== area: the class ===== -/
theorem jk_addTri {n : Nat} {σ : jw_H} {o : Nat} {C : List (ge_R × Int)} (hI : jx_I0 n σ o C) {i j N K : Int} (i1 : 1 ≤ i) (ij : i < j) (j1 : j < σ 103 56) (hK : 0 < K ∧ K ≤ 9200000000000000000) (hN : 0 ≤ N) (hd : jk_l σ i j ∣ K) (hT : N + jk_u σ i j * (K / jk_l σ i j) ≤ 9200000000000000000) (H : (σ 98 0, σ 98 1) = jx_fr N K)  : jw_T (js_S n) 4 151 [.inr (.inr 13), .inl i, .inl j] σ (fun r σ' => r = none ∧ jx_f89 σ σ' ∧ (σ' 98 0, σ' 98 1) = jx_fr (N + jk_u σ i j * (K / jk_l σ i j)) K) := by
  refine jw_T_of (D := 3) (M := mm_151) rfl (Nat.le_of_ble_eq_true rfl) (ls0 := [some (.inr (.inr 13)), some (.inl i), some (.inl j), none, none, none, none, none, none, none, none, none, none, none]) rfl ?_ (by rintro _ _ ⟨rfl, -⟩; rfl)
  have hcb := (jm_kw_cbd hI.2.2).2 σ (jm_fk_rf σ)
  have hcn := hcb.1
  have pt : ∀ c : Int, 0 ≤ c → c < σ 103 56 → σ 59 c = σ 132 c ∧ σ 60 c = σ 133 c ∧ σ 62 c = σ 135 c := fun c c0 c1 => by
    have e := (jx_I0_c hI c0 c1).1
    exact ⟨congrArg (fun v : ge_R => v.1) e, congrArg (fun v : ge_R => v.2.1) e, congrArg (fun v : ge_R => v.2.2.2) e⟩
  have p0 := pt 0 (by omega) (by omega)
  have pi := pt i (by omega) (by omega)
  have pj := pt j (by omega) (by omega)
  have q0 := jk_w hcb (i := 0) (by omega) (by omega)
  have qi := jk_w hcb (i := i) (by omega) (by omega)
  have qj := jk_w hcb (i := j) (by omega) (by omega)
  have hcr := jk_cr_bd hcb (i := i) (j := j) (by omega) (by omega) (by omega) (by omega)
  have hlb := jk_l_bd hcb (i := i) (j := j) (by omega) (by omega) (by omega) (by omega)
  have hu0 := jk_u_0 σ i j
  have had := jk_adg hK hN hlb.1 hu0 hd hT
  have h980 : σ 98 0 = (jx_fr N K).1 := congrArg Prod.fst H
  have h981 : σ 98 1 = (jx_fr N K).2 := congrArg Prod.snd H
  refine jw_W_n 1 (i' := 1) (ls' := [some (.inr (.inr 13)), some (.inl i), some (.inl j), none, none, none, none, none, none, none, none, none, none, none]) (st' := [.inr (.inr 13)]) rfl ?_
  refine jw_W_gf rfl rfl rfl ?_
  show jw_W (js_S n) _ md_151 2 [some (.inr (.inr 13)), some (.inl i), some (.inl j), none, none, none, none, none, none, none, none, none, none, none] [.inr (.inr 57)] σ _
  refine jw_W_gf rfl rfl rfl ?_
  show jw_W (js_S n) _ md_151 3 [some (.inr (.inr 13)), some (.inl i), some (.inl j), none, none, none, none, none, none, none, none, none, none, none] [.inr (.inr 58)] σ _
  refine jw_W_n 2 (i' := 5) (ls' := [some (.inr (.inr 13)), some (.inl i), some (.inl j), some (.inr (.inr 58)), none, none, none, none, none, none, none, none, none, none]) (st' := [.inr (.inr 58)]) rfl ?_
  refine jw_W_gf rfl rfl rfl ?_
  show jw_W (js_S n) _ md_151 6 [some (.inr (.inr 13)), some (.inl i), some (.inl j), some (.inr (.inr 58)), none, none, none, none, none, none, none, none, none, none] [.inr (.inr 62)] σ _
  refine jw_W_n 1 (i' := 7) (ls' := [some (.inr (.inr 13)), some (.inl i), some (.inl j), some (.inr (.inr 58)), none, none, none, none, none, none, none, none, none, none]) (st' := [.inl 0, .inr (.inr 62)]) rfl ?_
  refine jw_W_ia rfl rfl (by omega) (by omega) (by omega) ?_
  show jw_W (js_S n) _ md_151 8 [some (.inr (.inr 13)), some (.inl i), some (.inl j), some (.inr (.inr 58)), none, none, none, none, none, none, none, none, none, none] [.inl (σ 62 0)] σ _
  refine jw_W_i2l rfl (by unfold jw_rg; omega) ?_
  refine jw_W_n 2 (i' := 11) (ls' := [some (.inr (.inr 13)), some (.inl i), some (.inl j), some (.inr (.inr 58)), some (.inr (.inl (σ 62 0))), none, none, none, none, none, none, none, none, none]) (st' := [.inr (.inr 58)]) rfl ?_
  refine jw_W_gf rfl rfl rfl ?_
  show jw_W (js_S n) _ md_151 12 [some (.inr (.inr 13)), some (.inl i), some (.inl j), some (.inr (.inr 58)), some (.inr (.inl (σ 62 0))), none, none, none, none, none, none, none, none, none] [.inr (.inr 59)] σ _
  refine jw_W_n 1 (i' := 13) (ls' := [some (.inr (.inr 13)), some (.inl i), some (.inl j), some (.inr (.inr 58)), some (.inr (.inl (σ 62 0))), none, none, none, none, none, none, none, none, none]) (st' := [.inl i, .inr (.inr 59)]) rfl ?_
  refine jw_W_ia rfl rfl (by omega) (by omega) (by omega) ?_
  show jw_W (js_S n) _ md_151 14 [some (.inr (.inr 13)), some (.inl i), some (.inl j), some (.inr (.inr 58)), some (.inr (.inl (σ 62 0))), none, none, none, none, none, none, none, none, none] [.inl (σ 59 i)] σ _
  refine jw_W_i2l rfl (by unfold jw_rg; omega) ?_
  refine jw_W_n 3 (i' := 18) (ls' := [some (.inr (.inr 13)), some (.inl i), some (.inl j), some (.inr (.inr 58)), some (.inr (.inl (σ 62 0))), none, none, none, none, none, none, none, none, none]) (st' := [.inr (.inr 58), .inr (.inl ((σ 59 i) * (σ 62 0)))]) rfl ?_
  refine jw_W_gf rfl rfl rfl ?_
  show jw_W (js_S n) _ md_151 19 [some (.inr (.inr 13)), some (.inl i), some (.inl j), some (.inr (.inr 58)), some (.inr (.inl (σ 62 0))), none, none, none, none, none, none, none, none, none] [.inr (.inr 59), .inr (.inl ((σ 59 i) * (σ 62 0)))] σ _
  refine jw_W_n 1 (i' := 20) (ls' := [some (.inr (.inr 13)), some (.inl i), some (.inl j), some (.inr (.inr 58)), some (.inr (.inl (σ 62 0))), none, none, none, none, none, none, none, none, none]) (st' := [.inl 0, .inr (.inr 59), .inr (.inl ((σ 59 i) * (σ 62 0)))]) rfl ?_
  refine jw_W_ia rfl rfl (by omega) (by omega) (by omega) ?_
  show jw_W (js_S n) _ md_151 21 [some (.inr (.inr 13)), some (.inl i), some (.inl j), some (.inr (.inr 58)), some (.inr (.inl (σ 62 0))), none, none, none, none, none, none, none, none, none] [.inl (σ 59 0), .inr (.inl ((σ 59 i) * (σ 62 0)))] σ _
  refine jw_W_i2l rfl (by unfold jw_rg; omega) ?_
  refine jw_W_n 1 (i' := 23) (ls' := [some (.inr (.inr 13)), some (.inl i), some (.inl j), some (.inr (.inr 58)), some (.inr (.inl (σ 62 0))), none, none, none, none, none, none, none, none, none]) (st' := [.inr (.inr 58), .inr (.inl (σ 59 0)), .inr (.inl ((σ 59 i) * (σ 62 0)))]) rfl ?_
  refine jw_W_gf rfl rfl rfl ?_
  show jw_W (js_S n) _ md_151 24 [some (.inr (.inr 13)), some (.inl i), some (.inl j), some (.inr (.inr 58)), some (.inr (.inl (σ 62 0))), none, none, none, none, none, none, none, none, none] [.inr (.inr 62), .inr (.inl (σ 59 0)), .inr (.inl ((σ 59 i) * (σ 62 0)))] σ _
  refine jw_W_n 1 (i' := 25) (ls' := [some (.inr (.inr 13)), some (.inl i), some (.inl j), some (.inr (.inr 58)), some (.inr (.inl (σ 62 0))), none, none, none, none, none, none, none, none, none]) (st' := [.inl i, .inr (.inr 62), .inr (.inl (σ 59 0)), .inr (.inl ((σ 59 i) * (σ 62 0)))]) rfl ?_
  refine jw_W_ia rfl rfl (by omega) (by omega) (by omega) ?_
  show jw_W (js_S n) _ md_151 26 [some (.inr (.inr 13)), some (.inl i), some (.inl j), some (.inr (.inr 58)), some (.inr (.inl (σ 62 0))), none, none, none, none, none, none, none, none, none] [.inl (σ 62 i), .inr (.inl (σ 59 0)), .inr (.inl ((σ 59 i) * (σ 62 0)))] σ _
  refine jw_W_i2l rfl (by unfold jw_rg; omega) ?_
  refine jw_W_n 4 (i' := 31) (ls' := [some (.inr (.inr 13)), some (.inl i), some (.inl j), some (.inr (.inr 58)), some (.inr (.inl (σ 62 0))), none, some (.inr (.inl (((σ 59 i) * (σ 62 0)) - ((σ 59 0) * (σ 62 i))))), none, none, none, none, none, none, none]) (st' := [.inr (.inr 58)]) rfl ?_
  refine jw_W_gf rfl rfl rfl ?_
  show jw_W (js_S n) _ md_151 32 [some (.inr (.inr 13)), some (.inl i), some (.inl j), some (.inr (.inr 58)), some (.inr (.inl (σ 62 0))), none, some (.inr (.inl (((σ 59 i) * (σ 62 0)) - ((σ 59 0) * (σ 62 i))))), none, none, none, none, none, none, none] [.inr (.inr 60)] σ _
  refine jw_W_n 1 (i' := 33) (ls' := [some (.inr (.inr 13)), some (.inl i), some (.inl j), some (.inr (.inr 58)), some (.inr (.inl (σ 62 0))), none, some (.inr (.inl (((σ 59 i) * (σ 62 0)) - ((σ 59 0) * (σ 62 i))))), none, none, none, none, none, none, none]) (st' := [.inl i, .inr (.inr 60)]) rfl ?_
  refine jw_W_ia rfl rfl (by omega) (by omega) (by omega) ?_
  show jw_W (js_S n) _ md_151 34 [some (.inr (.inr 13)), some (.inl i), some (.inl j), some (.inr (.inr 58)), some (.inr (.inl (σ 62 0))), none, some (.inr (.inl (((σ 59 i) * (σ 62 0)) - ((σ 59 0) * (σ 62 i))))), none, none, none, none, none, none, none] [.inl (σ 60 i)] σ _
  refine jw_W_i2l rfl (by unfold jw_rg; omega) ?_
  refine jw_W_n 3 (i' := 38) (ls' := [some (.inr (.inr 13)), some (.inl i), some (.inl j), some (.inr (.inr 58)), some (.inr (.inl (σ 62 0))), none, some (.inr (.inl (((σ 59 i) * (σ 62 0)) - ((σ 59 0) * (σ 62 i))))), none, none, none, none, none, none, none]) (st' := [.inr (.inr 58), .inr (.inl ((σ 60 i) * (σ 62 0)))]) rfl ?_
  refine jw_W_gf rfl rfl rfl ?_
  show jw_W (js_S n) _ md_151 39 [some (.inr (.inr 13)), some (.inl i), some (.inl j), some (.inr (.inr 58)), some (.inr (.inl (σ 62 0))), none, some (.inr (.inl (((σ 59 i) * (σ 62 0)) - ((σ 59 0) * (σ 62 i))))), none, none, none, none, none, none, none] [.inr (.inr 60), .inr (.inl ((σ 60 i) * (σ 62 0)))] σ _
  refine jw_W_n 1 (i' := 40) (ls' := [some (.inr (.inr 13)), some (.inl i), some (.inl j), some (.inr (.inr 58)), some (.inr (.inl (σ 62 0))), none, some (.inr (.inl (((σ 59 i) * (σ 62 0)) - ((σ 59 0) * (σ 62 i))))), none, none, none, none, none, none, none]) (st' := [.inl 0, .inr (.inr 60), .inr (.inl ((σ 60 i) * (σ 62 0)))]) rfl ?_
  refine jw_W_ia rfl rfl (by omega) (by omega) (by omega) ?_
  show jw_W (js_S n) _ md_151 41 [some (.inr (.inr 13)), some (.inl i), some (.inl j), some (.inr (.inr 58)), some (.inr (.inl (σ 62 0))), none, some (.inr (.inl (((σ 59 i) * (σ 62 0)) - ((σ 59 0) * (σ 62 i))))), none, none, none, none, none, none, none] [.inl (σ 60 0), .inr (.inl ((σ 60 i) * (σ 62 0)))] σ _
  refine jw_W_i2l rfl (by unfold jw_rg; omega) ?_
  refine jw_W_n 1 (i' := 43) (ls' := [some (.inr (.inr 13)), some (.inl i), some (.inl j), some (.inr (.inr 58)), some (.inr (.inl (σ 62 0))), none, some (.inr (.inl (((σ 59 i) * (σ 62 0)) - ((σ 59 0) * (σ 62 i))))), none, none, none, none, none, none, none]) (st' := [.inr (.inr 58), .inr (.inl (σ 60 0)), .inr (.inl ((σ 60 i) * (σ 62 0)))]) rfl ?_
  refine jw_W_gf rfl rfl rfl ?_
  show jw_W (js_S n) _ md_151 44 [some (.inr (.inr 13)), some (.inl i), some (.inl j), some (.inr (.inr 58)), some (.inr (.inl (σ 62 0))), none, some (.inr (.inl (((σ 59 i) * (σ 62 0)) - ((σ 59 0) * (σ 62 i))))), none, none, none, none, none, none, none] [.inr (.inr 62), .inr (.inl (σ 60 0)), .inr (.inl ((σ 60 i) * (σ 62 0)))] σ _
  refine jw_W_n 1 (i' := 45) (ls' := [some (.inr (.inr 13)), some (.inl i), some (.inl j), some (.inr (.inr 58)), some (.inr (.inl (σ 62 0))), none, some (.inr (.inl (((σ 59 i) * (σ 62 0)) - ((σ 59 0) * (σ 62 i))))), none, none, none, none, none, none, none]) (st' := [.inl i, .inr (.inr 62), .inr (.inl (σ 60 0)), .inr (.inl ((σ 60 i) * (σ 62 0)))]) rfl ?_
  refine jw_W_ia rfl rfl (by omega) (by omega) (by omega) ?_
  show jw_W (js_S n) _ md_151 46 [some (.inr (.inr 13)), some (.inl i), some (.inl j), some (.inr (.inr 58)), some (.inr (.inl (σ 62 0))), none, some (.inr (.inl (((σ 59 i) * (σ 62 0)) - ((σ 59 0) * (σ 62 i))))), none, none, none, none, none, none, none] [.inl (σ 62 i), .inr (.inl (σ 60 0)), .inr (.inl ((σ 60 i) * (σ 62 0)))] σ _
  refine jw_W_i2l rfl (by unfold jw_rg; omega) ?_
  refine jw_W_n 4 (i' := 51) (ls' := [some (.inr (.inr 13)), some (.inl i), some (.inl j), some (.inr (.inr 58)), some (.inr (.inl (σ 62 0))), none, some (.inr (.inl (((σ 59 i) * (σ 62 0)) - ((σ 59 0) * (σ 62 i))))), none, some (.inr (.inl (((σ 60 i) * (σ 62 0)) - ((σ 60 0) * (σ 62 i))))), none, none, none, none, none]) (st' := [.inr (.inr 58)]) rfl ?_
  refine jw_W_gf rfl rfl rfl ?_
  show jw_W (js_S n) _ md_151 52 [some (.inr (.inr 13)), some (.inl i), some (.inl j), some (.inr (.inr 58)), some (.inr (.inl (σ 62 0))), none, some (.inr (.inl (((σ 59 i) * (σ 62 0)) - ((σ 59 0) * (σ 62 i))))), none, some (.inr (.inl (((σ 60 i) * (σ 62 0)) - ((σ 60 0) * (σ 62 i))))), none, none, none, none, none] [.inr (.inr 59)] σ _
  refine jw_W_n 1 (i' := 53) (ls' := [some (.inr (.inr 13)), some (.inl i), some (.inl j), some (.inr (.inr 58)), some (.inr (.inl (σ 62 0))), none, some (.inr (.inl (((σ 59 i) * (σ 62 0)) - ((σ 59 0) * (σ 62 i))))), none, some (.inr (.inl (((σ 60 i) * (σ 62 0)) - ((σ 60 0) * (σ 62 i))))), none, none, none, none, none]) (st' := [.inl j, .inr (.inr 59)]) rfl ?_
  refine jw_W_ia rfl rfl (by omega) (by omega) (by omega) ?_
  show jw_W (js_S n) _ md_151 54 [some (.inr (.inr 13)), some (.inl i), some (.inl j), some (.inr (.inr 58)), some (.inr (.inl (σ 62 0))), none, some (.inr (.inl (((σ 59 i) * (σ 62 0)) - ((σ 59 0) * (σ 62 i))))), none, some (.inr (.inl (((σ 60 i) * (σ 62 0)) - ((σ 60 0) * (σ 62 i))))), none, none, none, none, none] [.inl (σ 59 j)] σ _
  refine jw_W_i2l rfl (by unfold jw_rg; omega) ?_
  refine jw_W_n 3 (i' := 58) (ls' := [some (.inr (.inr 13)), some (.inl i), some (.inl j), some (.inr (.inr 58)), some (.inr (.inl (σ 62 0))), none, some (.inr (.inl (((σ 59 i) * (σ 62 0)) - ((σ 59 0) * (σ 62 i))))), none, some (.inr (.inl (((σ 60 i) * (σ 62 0)) - ((σ 60 0) * (σ 62 i))))), none, none, none, none, none]) (st' := [.inr (.inr 58), .inr (.inl ((σ 59 j) * (σ 62 0)))]) rfl ?_
  refine jw_W_gf rfl rfl rfl ?_
  show jw_W (js_S n) _ md_151 59 [some (.inr (.inr 13)), some (.inl i), some (.inl j), some (.inr (.inr 58)), some (.inr (.inl (σ 62 0))), none, some (.inr (.inl (((σ 59 i) * (σ 62 0)) - ((σ 59 0) * (σ 62 i))))), none, some (.inr (.inl (((σ 60 i) * (σ 62 0)) - ((σ 60 0) * (σ 62 i))))), none, none, none, none, none] [.inr (.inr 59), .inr (.inl ((σ 59 j) * (σ 62 0)))] σ _
  refine jw_W_n 1 (i' := 60) (ls' := [some (.inr (.inr 13)), some (.inl i), some (.inl j), some (.inr (.inr 58)), some (.inr (.inl (σ 62 0))), none, some (.inr (.inl (((σ 59 i) * (σ 62 0)) - ((σ 59 0) * (σ 62 i))))), none, some (.inr (.inl (((σ 60 i) * (σ 62 0)) - ((σ 60 0) * (σ 62 i))))), none, none, none, none, none]) (st' := [.inl 0, .inr (.inr 59), .inr (.inl ((σ 59 j) * (σ 62 0)))]) rfl ?_
  refine jw_W_ia rfl rfl (by omega) (by omega) (by omega) ?_
  show jw_W (js_S n) _ md_151 61 [some (.inr (.inr 13)), some (.inl i), some (.inl j), some (.inr (.inr 58)), some (.inr (.inl (σ 62 0))), none, some (.inr (.inl (((σ 59 i) * (σ 62 0)) - ((σ 59 0) * (σ 62 i))))), none, some (.inr (.inl (((σ 60 i) * (σ 62 0)) - ((σ 60 0) * (σ 62 i))))), none, none, none, none, none] [.inl (σ 59 0), .inr (.inl ((σ 59 j) * (σ 62 0)))] σ _
  refine jw_W_i2l rfl (by unfold jw_rg; omega) ?_
  refine jw_W_n 1 (i' := 63) (ls' := [some (.inr (.inr 13)), some (.inl i), some (.inl j), some (.inr (.inr 58)), some (.inr (.inl (σ 62 0))), none, some (.inr (.inl (((σ 59 i) * (σ 62 0)) - ((σ 59 0) * (σ 62 i))))), none, some (.inr (.inl (((σ 60 i) * (σ 62 0)) - ((σ 60 0) * (σ 62 i))))), none, none, none, none, none]) (st' := [.inr (.inr 58), .inr (.inl (σ 59 0)), .inr (.inl ((σ 59 j) * (σ 62 0)))]) rfl ?_
  refine jw_W_gf rfl rfl rfl ?_
  show jw_W (js_S n) _ md_151 64 [some (.inr (.inr 13)), some (.inl i), some (.inl j), some (.inr (.inr 58)), some (.inr (.inl (σ 62 0))), none, some (.inr (.inl (((σ 59 i) * (σ 62 0)) - ((σ 59 0) * (σ 62 i))))), none, some (.inr (.inl (((σ 60 i) * (σ 62 0)) - ((σ 60 0) * (σ 62 i))))), none, none, none, none, none] [.inr (.inr 62), .inr (.inl (σ 59 0)), .inr (.inl ((σ 59 j) * (σ 62 0)))] σ _
  refine jw_W_n 1 (i' := 65) (ls' := [some (.inr (.inr 13)), some (.inl i), some (.inl j), some (.inr (.inr 58)), some (.inr (.inl (σ 62 0))), none, some (.inr (.inl (((σ 59 i) * (σ 62 0)) - ((σ 59 0) * (σ 62 i))))), none, some (.inr (.inl (((σ 60 i) * (σ 62 0)) - ((σ 60 0) * (σ 62 i))))), none, none, none, none, none]) (st' := [.inl j, .inr (.inr 62), .inr (.inl (σ 59 0)), .inr (.inl ((σ 59 j) * (σ 62 0)))]) rfl ?_
  refine jw_W_ia rfl rfl (by omega) (by omega) (by omega) ?_
  show jw_W (js_S n) _ md_151 66 [some (.inr (.inr 13)), some (.inl i), some (.inl j), some (.inr (.inr 58)), some (.inr (.inl (σ 62 0))), none, some (.inr (.inl (((σ 59 i) * (σ 62 0)) - ((σ 59 0) * (σ 62 i))))), none, some (.inr (.inl (((σ 60 i) * (σ 62 0)) - ((σ 60 0) * (σ 62 i))))), none, none, none, none, none] [.inl (σ 62 j), .inr (.inl (σ 59 0)), .inr (.inl ((σ 59 j) * (σ 62 0)))] σ _
  refine jw_W_i2l rfl (by unfold jw_rg; omega) ?_
  refine jw_W_n 4 (i' := 71) (ls' := [some (.inr (.inr 13)), some (.inl i), some (.inl j), some (.inr (.inr 58)), some (.inr (.inl (σ 62 0))), none, some (.inr (.inl (((σ 59 i) * (σ 62 0)) - ((σ 59 0) * (σ 62 i))))), none, some (.inr (.inl (((σ 60 i) * (σ 62 0)) - ((σ 60 0) * (σ 62 i))))), none, some (.inr (.inl (((σ 59 j) * (σ 62 0)) - ((σ 59 0) * (σ 62 j))))), none, none, none]) (st' := [.inr (.inr 58)]) rfl ?_
  refine jw_W_gf rfl rfl rfl ?_
  show jw_W (js_S n) _ md_151 72 [some (.inr (.inr 13)), some (.inl i), some (.inl j), some (.inr (.inr 58)), some (.inr (.inl (σ 62 0))), none, some (.inr (.inl (((σ 59 i) * (σ 62 0)) - ((σ 59 0) * (σ 62 i))))), none, some (.inr (.inl (((σ 60 i) * (σ 62 0)) - ((σ 60 0) * (σ 62 i))))), none, some (.inr (.inl (((σ 59 j) * (σ 62 0)) - ((σ 59 0) * (σ 62 j))))), none, none, none] [.inr (.inr 60)] σ _
  refine jw_W_n 1 (i' := 73) (ls' := [some (.inr (.inr 13)), some (.inl i), some (.inl j), some (.inr (.inr 58)), some (.inr (.inl (σ 62 0))), none, some (.inr (.inl (((σ 59 i) * (σ 62 0)) - ((σ 59 0) * (σ 62 i))))), none, some (.inr (.inl (((σ 60 i) * (σ 62 0)) - ((σ 60 0) * (σ 62 i))))), none, some (.inr (.inl (((σ 59 j) * (σ 62 0)) - ((σ 59 0) * (σ 62 j))))), none, none, none]) (st' := [.inl j, .inr (.inr 60)]) rfl ?_
  refine jw_W_ia rfl rfl (by omega) (by omega) (by omega) ?_
  show jw_W (js_S n) _ md_151 74 [some (.inr (.inr 13)), some (.inl i), some (.inl j), some (.inr (.inr 58)), some (.inr (.inl (σ 62 0))), none, some (.inr (.inl (((σ 59 i) * (σ 62 0)) - ((σ 59 0) * (σ 62 i))))), none, some (.inr (.inl (((σ 60 i) * (σ 62 0)) - ((σ 60 0) * (σ 62 i))))), none, some (.inr (.inl (((σ 59 j) * (σ 62 0)) - ((σ 59 0) * (σ 62 j))))), none, none, none] [.inl (σ 60 j)] σ _
  refine jw_W_i2l rfl (by unfold jw_rg; omega) ?_
  refine jw_W_n 3 (i' := 78) (ls' := [some (.inr (.inr 13)), some (.inl i), some (.inl j), some (.inr (.inr 58)), some (.inr (.inl (σ 62 0))), none, some (.inr (.inl (((σ 59 i) * (σ 62 0)) - ((σ 59 0) * (σ 62 i))))), none, some (.inr (.inl (((σ 60 i) * (σ 62 0)) - ((σ 60 0) * (σ 62 i))))), none, some (.inr (.inl (((σ 59 j) * (σ 62 0)) - ((σ 59 0) * (σ 62 j))))), none, none, none]) (st' := [.inr (.inr 58), .inr (.inl ((σ 60 j) * (σ 62 0)))]) rfl ?_
  refine jw_W_gf rfl rfl rfl ?_
  show jw_W (js_S n) _ md_151 79 [some (.inr (.inr 13)), some (.inl i), some (.inl j), some (.inr (.inr 58)), some (.inr (.inl (σ 62 0))), none, some (.inr (.inl (((σ 59 i) * (σ 62 0)) - ((σ 59 0) * (σ 62 i))))), none, some (.inr (.inl (((σ 60 i) * (σ 62 0)) - ((σ 60 0) * (σ 62 i))))), none, some (.inr (.inl (((σ 59 j) * (σ 62 0)) - ((σ 59 0) * (σ 62 j))))), none, none, none] [.inr (.inr 60), .inr (.inl ((σ 60 j) * (σ 62 0)))] σ _
  refine jw_W_n 1 (i' := 80) (ls' := [some (.inr (.inr 13)), some (.inl i), some (.inl j), some (.inr (.inr 58)), some (.inr (.inl (σ 62 0))), none, some (.inr (.inl (((σ 59 i) * (σ 62 0)) - ((σ 59 0) * (σ 62 i))))), none, some (.inr (.inl (((σ 60 i) * (σ 62 0)) - ((σ 60 0) * (σ 62 i))))), none, some (.inr (.inl (((σ 59 j) * (σ 62 0)) - ((σ 59 0) * (σ 62 j))))), none, none, none]) (st' := [.inl 0, .inr (.inr 60), .inr (.inl ((σ 60 j) * (σ 62 0)))]) rfl ?_
  refine jw_W_ia rfl rfl (by omega) (by omega) (by omega) ?_
  show jw_W (js_S n) _ md_151 81 [some (.inr (.inr 13)), some (.inl i), some (.inl j), some (.inr (.inr 58)), some (.inr (.inl (σ 62 0))), none, some (.inr (.inl (((σ 59 i) * (σ 62 0)) - ((σ 59 0) * (σ 62 i))))), none, some (.inr (.inl (((σ 60 i) * (σ 62 0)) - ((σ 60 0) * (σ 62 i))))), none, some (.inr (.inl (((σ 59 j) * (σ 62 0)) - ((σ 59 0) * (σ 62 j))))), none, none, none] [.inl (σ 60 0), .inr (.inl ((σ 60 j) * (σ 62 0)))] σ _
  refine jw_W_i2l rfl (by unfold jw_rg; omega) ?_
  refine jw_W_n 1 (i' := 83) (ls' := [some (.inr (.inr 13)), some (.inl i), some (.inl j), some (.inr (.inr 58)), some (.inr (.inl (σ 62 0))), none, some (.inr (.inl (((σ 59 i) * (σ 62 0)) - ((σ 59 0) * (σ 62 i))))), none, some (.inr (.inl (((σ 60 i) * (σ 62 0)) - ((σ 60 0) * (σ 62 i))))), none, some (.inr (.inl (((σ 59 j) * (σ 62 0)) - ((σ 59 0) * (σ 62 j))))), none, none, none]) (st' := [.inr (.inr 58), .inr (.inl (σ 60 0)), .inr (.inl ((σ 60 j) * (σ 62 0)))]) rfl ?_
  refine jw_W_gf rfl rfl rfl ?_
  show jw_W (js_S n) _ md_151 84 [some (.inr (.inr 13)), some (.inl i), some (.inl j), some (.inr (.inr 58)), some (.inr (.inl (σ 62 0))), none, some (.inr (.inl (((σ 59 i) * (σ 62 0)) - ((σ 59 0) * (σ 62 i))))), none, some (.inr (.inl (((σ 60 i) * (σ 62 0)) - ((σ 60 0) * (σ 62 i))))), none, some (.inr (.inl (((σ 59 j) * (σ 62 0)) - ((σ 59 0) * (σ 62 j))))), none, none, none] [.inr (.inr 62), .inr (.inl (σ 60 0)), .inr (.inl ((σ 60 j) * (σ 62 0)))] σ _
  refine jw_W_n 1 (i' := 85) (ls' := [some (.inr (.inr 13)), some (.inl i), some (.inl j), some (.inr (.inr 58)), some (.inr (.inl (σ 62 0))), none, some (.inr (.inl (((σ 59 i) * (σ 62 0)) - ((σ 59 0) * (σ 62 i))))), none, some (.inr (.inl (((σ 60 i) * (σ 62 0)) - ((σ 60 0) * (σ 62 i))))), none, some (.inr (.inl (((σ 59 j) * (σ 62 0)) - ((σ 59 0) * (σ 62 j))))), none, none, none]) (st' := [.inl j, .inr (.inr 62), .inr (.inl (σ 60 0)), .inr (.inl ((σ 60 j) * (σ 62 0)))]) rfl ?_
  refine jw_W_ia rfl rfl (by omega) (by omega) (by omega) ?_
  show jw_W (js_S n) _ md_151 86 [some (.inr (.inr 13)), some (.inl i), some (.inl j), some (.inr (.inr 58)), some (.inr (.inl (σ 62 0))), none, some (.inr (.inl (((σ 59 i) * (σ 62 0)) - ((σ 59 0) * (σ 62 i))))), none, some (.inr (.inl (((σ 60 i) * (σ 62 0)) - ((σ 60 0) * (σ 62 i))))), none, some (.inr (.inl (((σ 59 j) * (σ 62 0)) - ((σ 59 0) * (σ 62 j))))), none, none, none] [.inl (σ 62 j), .inr (.inl (σ 60 0)), .inr (.inl ((σ 60 j) * (σ 62 0)))] σ _
  refine jw_W_i2l rfl (by unfold jw_rg; omega) ?_
  refine jw_W_n 4 (i' := 91) (ls' := [some (.inr (.inr 13)), some (.inl i), some (.inl j), some (.inr (.inr 58)), some (.inr (.inl (σ 62 0))), none, some (.inr (.inl (((σ 59 i) * (σ 62 0)) - ((σ 59 0) * (σ 62 i))))), none, some (.inr (.inl (((σ 60 i) * (σ 62 0)) - ((σ 60 0) * (σ 62 i))))), none, some (.inr (.inl (((σ 59 j) * (σ 62 0)) - ((σ 59 0) * (σ 62 j))))), none, some (.inr (.inl (((σ 60 j) * (σ 62 0)) - ((σ 60 0) * (σ 62 j))))), none]) (st' := [.inr (.inr 13)]) rfl ?_
  refine jw_W_gf rfl rfl rfl ?_
  show jw_W (js_S n) _ md_151 92 [some (.inr (.inr 13)), some (.inl i), some (.inl j), some (.inr (.inr 58)), some (.inr (.inl (σ 62 0))), none, some (.inr (.inl (((σ 59 i) * (σ 62 0)) - ((σ 59 0) * (σ 62 i))))), none, some (.inr (.inl (((σ 60 i) * (σ 62 0)) - ((σ 60 0) * (σ 62 i))))), none, some (.inr (.inl (((σ 59 j) * (σ 62 0)) - ((σ 59 0) * (σ 62 j))))), none, some (.inr (.inl (((σ 60 j) * (σ 62 0)) - ((σ 60 0) * (σ 62 j))))), none] [.inr (.inr 98)] σ _
  refine jw_W_n 7 (i' := 99) (ls' := [some (.inr (.inr 13)), some (.inl i), some (.inl j), some (.inr (.inr 58)), some (.inr (.inl (σ 62 0))), none, some (.inr (.inl (((σ 59 i) * (σ 62 0)) - ((σ 59 0) * (σ 62 i))))), none, some (.inr (.inl (((σ 60 i) * (σ 62 0)) - ((σ 60 0) * (σ 62 i))))), none, some (.inr (.inl (((σ 59 j) * (σ 62 0)) - ((σ 59 0) * (σ 62 j))))), none, some (.inr (.inl (((σ 60 j) * (σ 62 0)) - ((σ 60 0) * (σ 62 j))))), none]) (st' := [.inr (.inl (((((σ 59 i) * (σ 62 0)) - ((σ 59 0) * (σ 62 i))) * (((σ 60 j) * (σ 62 0)) - ((σ 60 0) * (σ 62 j)))) - ((((σ 60 i) * (σ 62 0)) - ((σ 60 0) * (σ 62 i))) * (((σ 59 j) * (σ 62 0)) - ((σ 59 0) * (σ 62 j)))))), .inr (.inr 98)]) rfl ?_
  have ecr : ((((σ 59 i) * (σ 62 0)) - ((σ 59 0) * (σ 62 i))) * (((σ 60 j) * (σ 62 0)) - ((σ 60 0) * (σ 62 j)))) - ((((σ 60 i) * (σ 62 0)) - ((σ 60 0) * (σ 62 i))) * (((σ 59 j) * (σ 62 0)) - ((σ 59 0) * (σ 62 j)))) = jk_cr σ i j := by unfold jk_cr; rw [p0.1, p0.2.1, p0.2.2, pi.1, pi.2.1, pi.2.2, pj.1, pj.2.1, pj.2.2]
  rw [ecr]
  refine jw_W_labs rfl rfl (by unfold jw_rgl; omega) (Nat.le_of_ble_eq_true rfl) ?_
  have eu : (if 0 < jk_cr σ i j then jk_cr σ i j else -(jk_cr σ i j)) = jk_u σ i j := by unfold jk_u; split <;> split <;> omega
  rw [eu]
  refine jw_W_n 4 (i' := 104) (ls' := [some (.inr (.inr 13)), some (.inl i), some (.inl j), some (.inr (.inr 58)), some (.inr (.inl (σ 62 0))), none, some (.inr (.inl (((σ 59 i) * (σ 62 0)) - ((σ 59 0) * (σ 62 i))))), none, some (.inr (.inl (((σ 60 i) * (σ 62 0)) - ((σ 60 0) * (σ 62 i))))), none, some (.inr (.inl (((σ 59 j) * (σ 62 0)) - ((σ 59 0) * (σ 62 j))))), none, some (.inr (.inl (((σ 60 j) * (σ 62 0)) - ((σ 60 0) * (σ 62 j))))), none]) (st' := [.inr (.inr 58), .inr (.inl ((σ 62 0) * (σ 62 0))), .inr (.inl (jk_u σ i j)), .inr (.inr 98)]) rfl ?_
  refine jw_W_gf rfl rfl rfl ?_
  show jw_W (js_S n) _ md_151 105 [some (.inr (.inr 13)), some (.inl i), some (.inl j), some (.inr (.inr 58)), some (.inr (.inl (σ 62 0))), none, some (.inr (.inl (((σ 59 i) * (σ 62 0)) - ((σ 59 0) * (σ 62 i))))), none, some (.inr (.inl (((σ 60 i) * (σ 62 0)) - ((σ 60 0) * (σ 62 i))))), none, some (.inr (.inl (((σ 59 j) * (σ 62 0)) - ((σ 59 0) * (σ 62 j))))), none, some (.inr (.inl (((σ 60 j) * (σ 62 0)) - ((σ 60 0) * (σ 62 j))))), none] [.inr (.inr 62), .inr (.inl ((σ 62 0) * (σ 62 0))), .inr (.inl (jk_u σ i j)), .inr (.inr 98)] σ _
  refine jw_W_n 1 (i' := 106) (ls' := [some (.inr (.inr 13)), some (.inl i), some (.inl j), some (.inr (.inr 58)), some (.inr (.inl (σ 62 0))), none, some (.inr (.inl (((σ 59 i) * (σ 62 0)) - ((σ 59 0) * (σ 62 i))))), none, some (.inr (.inl (((σ 60 i) * (σ 62 0)) - ((σ 60 0) * (σ 62 i))))), none, some (.inr (.inl (((σ 59 j) * (σ 62 0)) - ((σ 59 0) * (σ 62 j))))), none, some (.inr (.inl (((σ 60 j) * (σ 62 0)) - ((σ 60 0) * (σ 62 j))))), none]) (st' := [.inl i, .inr (.inr 62), .inr (.inl ((σ 62 0) * (σ 62 0))), .inr (.inl (jk_u σ i j)), .inr (.inr 98)]) rfl ?_
  refine jw_W_ia rfl rfl (by omega) (by omega) (by omega) ?_
  show jw_W (js_S n) _ md_151 107 [some (.inr (.inr 13)), some (.inl i), some (.inl j), some (.inr (.inr 58)), some (.inr (.inl (σ 62 0))), none, some (.inr (.inl (((σ 59 i) * (σ 62 0)) - ((σ 59 0) * (σ 62 i))))), none, some (.inr (.inl (((σ 60 i) * (σ 62 0)) - ((σ 60 0) * (σ 62 i))))), none, some (.inr (.inl (((σ 59 j) * (σ 62 0)) - ((σ 59 0) * (σ 62 j))))), none, some (.inr (.inl (((σ 60 j) * (σ 62 0)) - ((σ 60 0) * (σ 62 j))))), none] [.inl (σ 62 i), .inr (.inl ((σ 62 0) * (σ 62 0))), .inr (.inl (jk_u σ i j)), .inr (.inr 98)] σ _
  refine jw_W_i2l rfl (by unfold jw_rg; omega) ?_
  refine jw_W_n 2 (i' := 110) (ls' := [some (.inr (.inr 13)), some (.inl i), some (.inl j), some (.inr (.inr 58)), some (.inr (.inl (σ 62 0))), none, some (.inr (.inl (((σ 59 i) * (σ 62 0)) - ((σ 59 0) * (σ 62 i))))), none, some (.inr (.inl (((σ 60 i) * (σ 62 0)) - ((σ 60 0) * (σ 62 i))))), none, some (.inr (.inl (((σ 59 j) * (σ 62 0)) - ((σ 59 0) * (σ 62 j))))), none, some (.inr (.inl (((σ 60 j) * (σ 62 0)) - ((σ 60 0) * (σ 62 j))))), none]) (st' := [.inr (.inr 58), .inr (.inl (((σ 62 0) * (σ 62 0)) * (σ 62 i))), .inr (.inl (jk_u σ i j)), .inr (.inr 98)]) rfl ?_
  refine jw_W_gf rfl rfl rfl ?_
  show jw_W (js_S n) _ md_151 111 [some (.inr (.inr 13)), some (.inl i), some (.inl j), some (.inr (.inr 58)), some (.inr (.inl (σ 62 0))), none, some (.inr (.inl (((σ 59 i) * (σ 62 0)) - ((σ 59 0) * (σ 62 i))))), none, some (.inr (.inl (((σ 60 i) * (σ 62 0)) - ((σ 60 0) * (σ 62 i))))), none, some (.inr (.inl (((σ 59 j) * (σ 62 0)) - ((σ 59 0) * (σ 62 j))))), none, some (.inr (.inl (((σ 60 j) * (σ 62 0)) - ((σ 60 0) * (σ 62 j))))), none] [.inr (.inr 62), .inr (.inl (((σ 62 0) * (σ 62 0)) * (σ 62 i))), .inr (.inl (jk_u σ i j)), .inr (.inr 98)] σ _
  refine jw_W_n 1 (i' := 112) (ls' := [some (.inr (.inr 13)), some (.inl i), some (.inl j), some (.inr (.inr 58)), some (.inr (.inl (σ 62 0))), none, some (.inr (.inl (((σ 59 i) * (σ 62 0)) - ((σ 59 0) * (σ 62 i))))), none, some (.inr (.inl (((σ 60 i) * (σ 62 0)) - ((σ 60 0) * (σ 62 i))))), none, some (.inr (.inl (((σ 59 j) * (σ 62 0)) - ((σ 59 0) * (σ 62 j))))), none, some (.inr (.inl (((σ 60 j) * (σ 62 0)) - ((σ 60 0) * (σ 62 j))))), none]) (st' := [.inl j, .inr (.inr 62), .inr (.inl (((σ 62 0) * (σ 62 0)) * (σ 62 i))), .inr (.inl (jk_u σ i j)), .inr (.inr 98)]) rfl ?_
  refine jw_W_ia rfl rfl (by omega) (by omega) (by omega) ?_
  show jw_W (js_S n) _ md_151 113 [some (.inr (.inr 13)), some (.inl i), some (.inl j), some (.inr (.inr 58)), some (.inr (.inl (σ 62 0))), none, some (.inr (.inl (((σ 59 i) * (σ 62 0)) - ((σ 59 0) * (σ 62 i))))), none, some (.inr (.inl (((σ 60 i) * (σ 62 0)) - ((σ 60 0) * (σ 62 i))))), none, some (.inr (.inl (((σ 59 j) * (σ 62 0)) - ((σ 59 0) * (σ 62 j))))), none, some (.inr (.inl (((σ 60 j) * (σ 62 0)) - ((σ 60 0) * (σ 62 j))))), none] [.inl (σ 62 j), .inr (.inl (((σ 62 0) * (σ 62 0)) * (σ 62 i))), .inr (.inl (jk_u σ i j)), .inr (.inr 98)] σ _
  refine jw_W_i2l rfl (by unfold jw_rg; omega) ?_
  refine jw_W_n 1 (i' := 115) (ls' := [some (.inr (.inr 13)), some (.inl i), some (.inl j), some (.inr (.inr 58)), some (.inr (.inl (σ 62 0))), none, some (.inr (.inl (((σ 59 i) * (σ 62 0)) - ((σ 59 0) * (σ 62 i))))), none, some (.inr (.inl (((σ 60 i) * (σ 62 0)) - ((σ 60 0) * (σ 62 i))))), none, some (.inr (.inl (((σ 59 j) * (σ 62 0)) - ((σ 59 0) * (σ 62 j))))), none, some (.inr (.inl (((σ 60 j) * (σ 62 0)) - ((σ 60 0) * (σ 62 j))))), none]) (st' := [.inr (.inl ((((σ 62 0) * (σ 62 0)) * (σ 62 i)) * (σ 62 j))), .inr (.inl (jk_u σ i j)), .inr (.inr 98)]) rfl ?_
  have elw : (((σ 62 0) * (σ 62 0)) * (σ 62 i)) * (σ 62 j) = jk_l σ i j := by unfold jk_l; rw [p0.2.2, pi.2.2, pj.2.2]
  rw [elw]
  refine jw_W_call (as := [.inr (.inr 98), .inr (.inl (jk_u σ i j)), .inr (.inl (jk_l σ i j))]) (rest := []) rfl rfl rfl rfl (Nat.le_of_ble_eq_true rfl) (.inr rfl) (jx_add (jx_fo_98 n) (by rw [h981]; unfold jm_bg; omega) (by unfold jm_bg; omega) (by omega) (by rw [h980, h981]; exact had.2.1.1) (by rw [h981]; have := had.2.1.2; unfold jm_bg; omega) (by rw [h981]; have := had.2.1.2; omega)) (by omega) ?_ rfl
  rintro r1 σ1 ⟨rfl, hs⟩
  have hf1 : jx_f89 σ σ1 := by rw [hs]; exact fun c _ h2 _ => jx_fs_o σ _ h2
  have hH1 : (σ1 98 0, σ1 98 1) = jx_fr (N + jk_u σ i j * (K / jk_l σ i j)) K := by rw [← had.2.2, ← H, hs]; rfl
  show jw_W (js_S n) _ md_151 116 [some (.inr (.inr 13)), some (.inl i), some (.inl j), some (.inr (.inr 58)), some (.inr (.inl (σ 62 0))), none, some (.inr (.inl (((σ 59 i) * (σ 62 0)) - ((σ 59 0) * (σ 62 i))))), none, some (.inr (.inl (((σ 60 i) * (σ 62 0)) - ((σ 60 0) * (σ 62 i))))), none, some (.inr (.inl (((σ 59 j) * (σ 62 0)) - ((σ 59 0) * (σ 62 j))))), none, some (.inr (.inl (((σ 60 j) * (σ 62 0)) - ((σ 60 0) * (σ 62 j))))), none] [] σ1 _
  refine jw_W_re rfl ?_
  exact ⟨rfl, hf1, hH1⟩
theorem jk_arx_in {n : Nat} {σ0 : jw_H} {o : Nat} {C : List (ge_R × Int)} (hK0 : jx_K n o C σ0) (hA : jk_aP σ0 (jk_aK σ0)) {t : Int} {Q : Option jw_V → jw_H → Prop} {i : Int} (i1 : 1 ≤ i) (i2 : i < σ0 103 56) (hQ : ∀ {σ : jw_H}, jx_f89 σ0 σ → (σ 98 0, σ 98 1) = jx_fr (jk_aS σ0 (jk_aK σ0) (i + 1).toNat) (jk_aK σ0) → jw_W (js_S n) 6 md_150 46 [some (.inr (.inr 13)), some (.inl t), some (.inl i), some (.inl (σ0 103 56))] [] σ Q) : ∀ (f : Nat) {σ : jw_H} {j : Int}, i < j → j + f = σ0 103 56 → jx_f89 σ0 σ → (σ 98 0, σ 98 1) = jx_fr (jk_aS σ0 (jk_aK σ0) i.toNat + jk_aR σ0 (jk_aK σ0) i j.toNat) (jk_aK σ0) → jw_W (js_S n) 6 md_150 29 [some (.inr (.inr 13)), some (.inl t), some (.inl i), some (.inl j)] [] σ Q
  | f, σ, j, ij, hk, HZ, H => by
    have ih : ∀ {σ' : jw_H}, j < σ0 103 56 → jx_f89 σ0 σ' → (σ' 98 0, σ' 98 1) = jx_fr (jk_aS σ0 (jk_aK σ0) i.toNat + jk_aR σ0 (jk_aK σ0) i (j + 1).toNat) (jk_aK σ0) → jw_W (js_S n) 6 md_150 29 [some (.inr (.inr 13)), some (.inl t), some (.inl i), some (.inl (j + 1))] [] σ' Q := by
      intro σ' h1 h2 h3
      match f, hk with
      | 0, hk => omega
      | f + 1, hk => exact jk_arx_in hK0 hA i1 i2 hQ f (by omega) (by omega) h2 h3
    have hfy := jx_f89_y HZ
    have hme := jx_fx_me (jx_fy_x hfy)
    have hK := jx_K_y hfy hK0
    have hKN0 := hK0.2.1
    have hP0 := hKN0.1.1
    have hcb0 := (jm_kw_cbd hKN0.1).2 σ0 (jm_fk_rf σ0)
    have hcn0 := hcb0.1
    have hI := hK.1
    obtain ⟨hto, hfo, hp, hP, e0, e1, e2, hPm, hcb, c0, p0, -⟩ := jx_I0_x hI
    have ho := hp.1
    have hq := hP.1
    have hw := hP.2.1
    have hq2 := hP.2.2.1
    have hcn := hcb.1
    have e103 : σ 103 = σ0 103 := hme 103 (by omega)
    have e56 : σ 103 56 = σ0 103 56 := by rw [e103]
    have eu : jk_u σ = jk_u σ0 := by
      funext a b
      unfold jk_u jk_cr
      rw [hme 132 (by omega), hme 133 (by omega), hme 135 (by omega)]
    have el : jk_l σ = jk_l σ0 := by
      funext a b
      unfold jk_l
      rw [hme 135 (by omega)]
    refine jw_W_n 2 (i' := 31) (ls' := [some (.inr (.inr 13)), some (.inl t), some (.inl i), some (.inl j)]) (st' := [.inr (.inr 13), .inl j]) rfl ?_
    refine jw_W_gf rfl rfl rfl ?_
    show jw_W (js_S n) _ md_150 32 [some (.inr (.inr 13)), some (.inl t), some (.inl i), some (.inl j)] [.inr (.inr 57), .inl j] σ _
    refine jw_W_gf rfl rfl rfl ?_
    show jw_W (js_S n) _ md_150 33 [some (.inr (.inr 13)), some (.inl t), some (.inl i), some (.inl j)] [.inl (σ 57 0), .inl j] σ _
    refine jw_W_ic rfl (by unfold jw_rg; omega) (by unfold jw_rg; omega) (fun hc1 => ?_) (fun hc1 => ?_)
    · have hc1 : j ≥ (σ 57 0) := hc1
      have hkl : j = σ0 103 56 := by omega
      subst hkl
      exact hQ HZ (by rw [H, jk_aS_s i1])
    · have hc1 : ¬ (j ≥ (σ 57 0)) := hc1
      obtain ⟨-, ti, vi, -, tui, -⟩ := jx_I0_c hI (i := i) (by omega) (by omega)
      obtain ⟨-, tj, vj, -, tuj, -⟩ := jx_I0_c hI (i := j) (by omega) (by omega)
      have hRM : jm_R (jx_M σ o) = jm_R σ := jx_pq_R hI.1.2.2.2 (by omega) (by omega)
      have hAM : jm_bA (jx_M σ o) = jm_bA σ := jx_pq_bA hI.1.2.2.2 (by omega) (by omega)
      have hFi : ge_F (jm_R (jx_M σ o)) (jm_ct σ i) := by rw [hRM]; exact vi.1
      have hFj : ge_F (jm_R (jx_M σ o)) (jm_ct σ j) := by rw [hRM]; exact vj.1
      have hti : jm_tau (jm_bA (jx_M σ o)) (jm_ct σ i) (σ 63 i) := by rw [hAM, ti]; exact tui
      have htj : jm_tau (jm_bA (jx_M σ o)) (jm_ct σ j) (σ 63 j) := by rw [hAM, tj]; exact tuj
      refine jw_W_n 1 (i' := 35) (ls' := [some (.inr (.inr 13)), some (.inl t), some (.inl i), some (.inl j)]) (st' := [.inr (.inr 13)]) rfl ?_
      refine jw_W_gf rfl rfl rfl ?_
      show jw_W (js_S n) _ md_150 36 [some (.inr (.inr 13)), some (.inl t), some (.inl i), some (.inl j)] [.inr (.inr 57)] σ _
      refine jw_W_n 2 (i' := 38) (ls' := [some (.inr (.inr 13)), some (.inl t), some (.inl i), some (.inl j)]) (st' := [.inl j, .inl i, .inr (.inr 57)]) rfl ?_
      refine jw_W_call (as := [.inr (.inr 57), .inl i, .inl j]) (rest := []) rfl rfl rfl rfl (Nat.le_of_ble_eq_true rfl) (.inr rfl) (jx_areLinked hfo hp hP (by omega) (by omega) (by omega) (by omega) hFi hFj hti htj) (by omega) ?_ rfl
      rintro r1 σz (⟨rfl, hs, hE1⟩ | ⟨rfl, hs, hE1⟩)
      · rw [hs]
        rw [hRM, jx_me_R hme hP0, jx_me_ct hme, jx_me_ct hme] at hE1
        have hlk : jk_lk σ0 i j := ⟨ij, hE1.2⟩
        have hpt := jk_pt hcb0 hA i1 ij (by omega) hlk
        have hdv := hA.2.1 i j i1 (by omega) hlk
        show jw_W (js_S n) _ md_150 39 [some (.inr (.inr 13)), some (.inl t), some (.inl i), some (.inl j)] [.inl 1] σ _
        refine jw_W_if rfl (by unfold jw_rg; omega) (fun hc2 => ?_) (fun hc2 => ?_)
        · exact absurd hc2 (show ¬ ((1 : Int) = 0) by omega)
        · clear hc2
          refine jw_W_n 3 (i' := 43) (ls' := [some (.inr (.inr 13)), some (.inl t), some (.inl i), some (.inl j)]) (st' := [.inl j, .inl i, .inr (.inr 13)]) rfl ?_
          refine jw_W_call (as := [.inr (.inr 13), .inl i, .inl j]) (rest := []) rfl rfl rfl rfl (Nat.le_of_ble_eq_true rfl) (.inr rfl) (jk_addTri hI i1 ij (by omega) hA.1 hpt.1 (by rw [el]; exact hdv) (by rw [el, eu]; exact hpt.2) H) (by omega) ?_ rfl
          rintro r1 σ1 ⟨rfl, hf, hH⟩
          rw [el, eu] at hH
          show jw_W (js_S n) _ md_150 44 [some (.inr (.inr 13)), some (.inl t), some (.inl i), some (.inl j)] [] σ1 _
          refine jw_W_n 2 (i' := 29) (ls' := [some (.inr (.inr 13)), some (.inl t), some (.inl i), some (.inl (j + 1))]) (st' := []) rfl ?_
          exact ih (by omega) (fun c h1 h2 h3 => (hf c h1 h2 h3).trans (HZ c h1 h2 h3)) (by rw [jk_aR_s (by omega), jx_b_1 hlk, Int.one_mul, ← Int.add_assoc]; exact hH)
      · rw [hs]
        rw [hRM, jx_me_R hme hP0, jx_me_ct hme, jx_me_ct hme] at hE1
        have hlk : ¬ jk_lk σ0 i j := fun hh => hE1 ⟨by omega, hh.2⟩
        show jw_W (js_S n) _ md_150 39 [some (.inr (.inr 13)), some (.inl t), some (.inl i), some (.inl j)] [.inl 0] σ _
        refine jw_W_if rfl (by unfold jw_rg; omega) (fun hc3 => ?_) (fun hc3 => ?_)
        · clear hc3
          refine jw_W_n 2 (i' := 29) (ls' := [some (.inr (.inr 13)), some (.inl t), some (.inl i), some (.inl (j + 1))]) (st' := []) rfl ?_
          exact ih (by omega) HZ (by rw [jk_aR_s (by omega), jx_b_0 hlk, Int.zero_mul, Int.add_zero]; exact H)
        · exact absurd hc3 (show ¬ ¬ ((0 : Int) = 0) by omega)
theorem jk_arx_out {n : Nat} {σ0 : jw_H} {o : Nat} {C : List (ge_R × Int)} (hK0 : jx_K n o C σ0) (hA : jk_aP σ0 (jk_aK σ0)) {t : Int} (ht : t = 0 ∨ t = 1) : ∀ (f : Nat) {σ : jw_H} {i : Int} {x3 : Option jw_V}, 1 ≤ i → (i + f = σ0 103 56 ∨ (σ0 103 56 = 0 ∧ i = 1)) → jx_f89 σ0 σ → (σ 98 0, σ 98 1) = jx_fr (jk_aS σ0 (jk_aK σ0) i.toNat) (jk_aK σ0) → jw_W (js_S n) 6 md_150 20 [some (.inr (.inr 13)), some (.inl t), some (.inl i), x3] [] σ (fun r σ' => r = some (.inr (.inl (if t = 0 then (jk_afr σ0).1 else (jk_afr σ0).2))) ∧ jx_fy σ0 σ')
  | f, σ, i, x3, i1, hk, HZ, H => by
    have ih : ∀ {σ' : jw_H} {x3' : Option jw_V}, i < σ0 103 56 → jx_f89 σ0 σ' → (σ' 98 0, σ' 98 1) = jx_fr (jk_aS σ0 (jk_aK σ0) (i + 1).toNat) (jk_aK σ0) → jw_W (js_S n) 6 md_150 20 [some (.inr (.inr 13)), some (.inl t), some (.inl (i + 1)), x3'] [] σ' (fun r σ' => r = some (.inr (.inl (if t = 0 then (jk_afr σ0).1 else (jk_afr σ0).2))) ∧ jx_fy σ0 σ') := by
      intro σ' x3' h1 h2 h3
      match f, hk with
      | 0, hk => omega
      | f + 1, hk => exact jk_arx_out hK0 hA ht f (by omega) (by omega) h2 h3
    have hfy := jx_f89_y HZ
    have hme := jx_fx_me (jx_fy_x hfy)
    have hK := jx_K_y hfy hK0
    have hKN0 := hK0.2.1
    have hP0 := hKN0.1.1
    have hcb0 := (jm_kw_cbd hKN0.1).2 σ0 (jm_fk_rf σ0)
    have hcn0 := hcb0.1
    have hI := hK.1
    obtain ⟨hto, hfo, hp, hP, e0, e1, e2, hPm, hcb, c0, p0, -⟩ := jx_I0_x hI
    have ho := hp.1
    have hq := hP.1
    have hw := hP.2.1
    have hq2 := hP.2.2.1
    have hcn := hcb.1
    have e103 : σ 103 = σ0 103 := hme 103 (by omega)
    have e56 : σ 103 56 = σ0 103 56 := by rw [e103]
    have eu : jk_u σ = jk_u σ0 := by
      funext a b
      unfold jk_u jk_cr
      rw [hme 132 (by omega), hme 133 (by omega), hme 135 (by omega)]
    have el : jk_l σ = jk_l σ0 := by
      funext a b
      unfold jk_l
      rw [hme 135 (by omega)]
    refine jw_W_n 2 (i' := 22) (ls' := [some (.inr (.inr 13)), some (.inl t), some (.inl i), x3]) (st' := [.inr (.inr 13), .inl i]) rfl ?_
    refine jw_W_gf rfl rfl rfl ?_
    show jw_W (js_S n) _ md_150 23 [some (.inr (.inr 13)), some (.inl t), some (.inl i), x3] [.inr (.inr 57), .inl i] σ _
    refine jw_W_gf rfl rfl rfl ?_
    show jw_W (js_S n) _ md_150 24 [some (.inr (.inr 13)), some (.inl t), some (.inl i), x3] [.inl (σ 57 0), .inl i] σ _
    refine jw_W_ic rfl (by unfold jw_rg; omega) (by unfold jw_rg; omega) (fun hc1 => ?_) (fun hc1 => ?_)
    · have hc1 : i ≥ (σ 57 0) := hc1
      refine jw_W_n 1 (i' := 49) (ls' := [some (.inr (.inr 13)), some (.inl t), some (.inl i), x3]) (st' := [.inr (.inr 13)]) rfl ?_
      refine jw_W_gf rfl rfl rfl ?_
      show jw_W (js_S n) _ md_150 50 [some (.inr (.inr 13)), some (.inl t), some (.inl i), x3] [.inr (.inr 98)] σ _
      refine jw_W_n 1 (i' := 51) (ls' := [some (.inr (.inr 13)), some (.inl t), some (.inl i), x3]) (st' := [.inl t, .inr (.inr 98)]) rfl ?_
      refine jw_W_call (as := [.inr (.inr 98), .inl t]) (rest := []) rfl rfl rfl rfl (Nat.le_of_ble_eq_true rfl) (.inr rfl) (jx_part (jx_fo_98 n) (by unfold jw_rg; omega)) (by omega) ?_ rfl
      rintro r1 σz ⟨rfl, hs⟩
      rw [hs]
      show jw_W (js_S n) _ md_150 52 [some (.inr (.inr 13)), some (.inl t), some (.inl i), x3] [.inr (.inl (if t = 0 then σ 98 0 else σ 98 1))] σ _
      refine jw_W_lr rfl ?_
      have hq : jk_afr σ0 = (σ 98 0, σ 98 1) := by
        unfold jk_afr
        rw [H]
        rcases hk with hk | hk
        · rw [show i = σ0 103 56 by omega]
        · rw [hk.1, hk.2, show (1 : Int).toNat = 1 from rfl, jk_aS_1]
          rfl
      refine ⟨?_, hfy⟩
      rw [hq]
    · have hc1 : ¬ (i ≥ (σ 57 0)) := hc1
      refine jw_W_n 4 (i' := 29) (ls' := [some (.inr (.inr 13)), some (.inl t), some (.inl i), some (.inl (i + 1))]) (st' := []) rfl ?_
      refine jk_arx_in hK0 hA i1 (by omega) (fun {σ2} HZ2 H2 => ?_) (σ0 103 56 - (i + 1)).toNat (j := i + 1) (by omega) (by omega) HZ (by rw [jk_aR_lo _ (by omega), Int.add_zero]; exact H)
      refine jw_W_n 2 (i' := 20) (ls' := [some (.inr (.inr 13)), some (.inl t), some (.inl (i + 1)), some (.inl (σ0 103 56))]) (st' := []) rfl ?_
      exact ih (by omega) HZ2 H2
theorem jx_area {n : Nat} {σ : jw_H} {o : Nat} {C : List (ge_R × Int)} (hK : jx_K n o C σ) (hA : σ 103 3 = 2 → jk_aP σ (jk_aK σ)) {t : Int} (ht : jw_rg t) : jw_T (js_S n) 7 150 [.inr (.inr 13), .inl t] σ (fun r σ' => ∃ v, r = some (.inr (.inl v)) ∧ jx_fy σ σ' ∧ jk_ara σ t v) := by
  refine jw_T_of (D := 6) (M := mm_150) rfl (Nat.le_of_ble_eq_true rfl) (ls0 := [some (.inr (.inr 13)), some (.inl t), none, none]) rfl ?_ (by rintro _ _ ⟨_, rfl, -⟩; rfl)
  have hI := hK.1
  obtain ⟨hto, hfo, hp, hP, e0, e1, e2, hPm, hcb, c0, p0, -⟩ := jx_I0_x hI
  have ho := hp.1
  have hq := hP.1
  have hw := hP.2.1
  have hq2 := hP.2.2.1
  have hcn := hcb.1
  have rht := ht
  unfold jw_rg at rht
  refine jw_W_n 2 (i' := 2) (ls' := [some (.inr (.inr 13)), some (.inl t), none, none]) (st' := [.inl t, .inr (.inr 13)]) rfl ?_
  refine jw_W_call (as := [.inr (.inr 13), .inl t]) (rest := []) rfl rfl rfl rfl (Nat.le_of_ble_eq_true rfl) (.inr rfl) (jx_isPart hK ht) (by omega) ?_ rfl
  rintro r1 σz (⟨rfl, hs, q1⟩ | ⟨rfl, hs, q1⟩)
  · rw [hs]
    show jw_W (js_S n) _ md_150 3 [some (.inr (.inr 13)), some (.inl t), none, none] [.inl 1] σ _
    refine jw_W_if rfl (by unfold jw_rg; omega) (fun hc1 => ?_) (fun hc1 => ?_)
    · clear hc1
      refine jw_W_n 1 (i' := 7) (ls' := [some (.inr (.inr 13)), some (.inl t), none, none]) (st' := [.inr (.inr 13)]) rfl ?_
      refine jw_W_gf rfl rfl rfl ?_
      show jw_W (js_S n) _ md_150 8 [some (.inr (.inr 13)), some (.inl t), none, none] [.inr (.inr ((σ 13 2).toNat))] σ _
      rw [hto]
      refine jw_W_gf rfl hp.2.1 rfl ?_
      show jw_W (js_S n) _ md_150 9 [some (.inr (.inr 13)), some (.inl t), none, none] [.inl (σ o 0)] σ _
      refine jw_W_n 1 (i' := 10) (ls' := [some (.inr (.inr 13)), some (.inl t), none, none]) (st' := [.inl 2, .inl (σ o 0)]) rfl ?_
      refine jw_W_ic rfl (by unfold jw_rg; omega) (by unfold jw_rg; omega) (fun hc2 => ?_) (fun hc2 => ?_)
      · have hc2 : (σ o 0) = 2 := hc2
        refine jw_W_n 1 (i' := 14) (ls' := [some (.inr (.inr 13)), some (.inl t), none, none]) (st' := [.inr (.inr 13)]) rfl ?_
        refine jw_W_gf rfl rfl rfl ?_
        show jw_W (js_S n) _ md_150 15 [some (.inr (.inr 13)), some (.inl t), none, none] [.inr (.inr 98)] σ _
        refine jw_W_n 2 (i' := 17) (ls' := [some (.inr (.inr 13)), some (.inl t), none, none]) (st' := [.inr (.inl 1), .inr (.inl 0), .inr (.inr 98)]) rfl ?_
        refine jw_W_call (as := [.inr (.inr 98), .inr (.inl 0), .inr (.inl 1)]) (rest := []) rfl rfl rfl rfl (Nat.le_of_ble_eq_true rfl) (.inr rfl) (jx_set (jx_fo_98 n) (by unfold jm_bg; omega) (by unfold jm_bg; omega) (by omega)) (by omega) ?_ rfl
        rintro r1 σ2 ⟨rfl, hs⟩
        have hf2 : jx_f89 σ σ2 := by rw [hs]; exact fun c _ h2 _ => jx_fs_o σ _ h2
        have hH2 : (σ2 98 0, σ2 98 1) = jx_fr (jk_aS σ (jk_aK σ) (1 : Int).toNat) (jk_aK σ) := by rw [hs, show (1 : Int).toNat = 1 from rfl, jk_aS_1]; exact (show _ = jx_fr 0 1 from rfl).trans ((show jx_fr 0 1 = ((0, 1) : Int × Int) by decide).trans (jk_fr0 (hA (by omega)).1.1).symm)
        show jw_W (js_S n) _ md_150 18 [some (.inr (.inr 13)), some (.inl t), none, none] [] σ2 _
        refine jw_W_n 2 (i' := 20) (ls' := [some (.inr (.inr 13)), some (.inl t), some (.inl 1), none]) (st' := []) rfl ?_
        refine jw_W_mono (jk_arx_out hK (hA (by omega)) (by omega) (σ 103 56 - 1).toNat (i := 1) (by omega) (by have := hcb.1; omega) hf2 hH2) ?_
        rintro r σ' ⟨rfl, hf⟩
        exact ⟨_, rfl, hf, .inr ⟨by omega, .inr ⟨by omega, rfl⟩⟩⟩
      · have hc2 : ¬ ((σ o 0) = 2) := hc2
        refine jw_W_ld2 (z := (-3)) rfl rfl ?_
        refine jw_W_lr rfl ?_
        exact ⟨_, rfl, jx_fy_rf σ, .inr ⟨by omega, .inl ⟨rfl, by omega⟩⟩⟩
    · exact absurd hc1 (show ¬ ¬ ((1 : Int) ≠ 0) by omega)
  · rw [hs]
    show jw_W (js_S n) _ md_150 3 [some (.inr (.inr 13)), some (.inl t), none, none] [.inl 0] σ _
    refine jw_W_if rfl (by unfold jw_rg; omega) (fun hc3 => ?_) (fun hc3 => ?_)
    · exact absurd hc3 (show ¬ ((0 : Int) ≠ 0) by omega)
    · clear hc3
      refine jw_W_ld2 (z := (-1)) rfl rfl ?_
      refine jw_W_lr rfl ?_
      exact ⟨_, rfl, jx_fy_rf σ, .inl ⟨rfl, by omega⟩⟩
